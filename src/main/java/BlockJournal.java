import java.util.Arrays;
import java.util.NoSuchElementException;

/**
 * A journal over a store of blocks: changes of many blocks are done all together or not at all,
 * wherever between two writes the power is lost.
 */
public final class BlockJournal {
    private static final int BLOCKS = 96;
    private static final int SIZE = 64;
    private static final int HEAD = 0;
    private static final int PAYLOAD = 1;
    private static final int FIRST_TARGET = 25;
    private static final int MOST_CHANGES = 24;

    private static final int AT_SEQUENCE = 0;
    private static final int AT_COUNT = 4;
    private static final int AT_TARGETS = 5;
    private static final int AT_CHECK = 59;

    private static final int BYTE = 255;
    private static final int POLYNOMIAL = 0x82F63B78; // the document's 2197175160
    private static final int NOTHING_SAID = -1;

    private final int[] store;
    private final int[] checkSteps;
    private final int[] newHead;

    // Behind its first tapeLength bytes the tape is always 0, so that a change can take it whole.
    private final int[] tape;
    private int tapeLength;

    // The changes lie by rising numbers without gaps; row i of changeBytes belongs to changeBlocks[i].
    private final int[] changeBlocks;
    private final int[] changeBytes;
    private int changes;

    // When the power is off, writesLeft is 0: then a write needs to look at writesLeft alone.
    private boolean off;
    private int writesLeft;
    private long writesDone;

    public BlockJournal() {
        store = new int[BLOCKS * SIZE];
        checkSteps = new int[BYTE + 1];
        newHead = new int[SIZE];
        tape = new int[SIZE];
        changeBlocks = new int[MOST_CHANGES];
        changeBytes = new int[MOST_CHANGES * SIZE];
        writesLeft = NOTHING_SAID;
        for (int b = 0; b <= BYTE; b++) {
            checkSteps[b] = eightSteps(b);
        }
    }

    public int feed(int n, long v) throws IllegalArgumentException, IllegalStateException {
        if (n < 1 || n > 8) {
            throw new IllegalArgumentException("n is not 1 .. 8");
        }
        if (tapeLength + n > SIZE) {
            throw new IllegalStateException("the tape would have more than 64 bytes");
        }
        for (int i = 0; i < n; i++) {
            tape[tapeLength + i] = (int) (v >>> (8 * i)) & BYTE;
        }
        tapeLength += n;
        return tapeLength;
    }

    public int put(int block) throws IllegalArgumentException, IllegalStateException {
        if (!isTarget(block)) {
            throw new IllegalArgumentException("the block is not 25 .. 95");
        }
        int place = placeOf(block);
        if (!isChangeOf(place, block)) {
            if (changes >= MOST_CHANGES) {
                throw new IllegalStateException("there are 24 changes of other blocks");
            }
            openPlace(place, block);
        }
        System.arraycopy(tape, 0, changeBytes, place * SIZE, SIZE);
        Arrays.fill(tape, 0);
        tapeLength = 0;
        return changes;
    }

    public int drop() {
        int dropped = changes;
        changes = 0;
        return dropped;
    }

    public boolean commit() throws IllegalStateException {
        if (changes == 0 || off) {
            throw new IllegalStateException("there are no changes, or the power is off");
        }
        int sequence = headWord(AT_SEQUENCE);
        for (int i = 0; i < changes; i++) {
            write(PAYLOAD + i, changeBytes, i * SIZE);
        }
        writeFullHead(sequence);
        for (int i = 0; i < changes; i++) {
            write(changeBlocks[i], changeBytes, i * SIZE);
        }
        writeEmptyHead(sequence + 1);
        changes = 0;
        return !off;
    }

    public int recover() throws IllegalStateException {
        if (off) {
            throw new IllegalStateException("the power is off");
        }
        if (!headIsRight()) {
            return 0;
        }
        int count = headCount();
        for (int i = 0; i < count; i++) {
            write(headTarget(i), store, (PAYLOAD + i) * SIZE);
        }
        writeEmptyHead(headWord(AT_SEQUENCE) + 1);
        return off ? -1 : count;
    }

    public void lose(int n) throws IllegalArgumentException, IllegalStateException {
        if (n < 1) {
            throw new IllegalArgumentException("n is below 1");
        }
        if (off) {
            throw new IllegalStateException("the power is off");
        }
        writesLeft = n - 1;
    }

    public boolean power() {
        boolean was = off;
        off = false;
        writesLeft = NOTHING_SAID;
        return was;
    }

    public int spoil(int block, int k, int v) throws IllegalArgumentException {
        if (!isInStore(block, k)) {
            throw new IllegalArgumentException("there is no such block or byte");
        }
        int was = store[block * SIZE + k];
        store[block * SIZE + k] = v & BYTE;
        return was;
    }

    public int at(int block, int k) throws IllegalArgumentException {
        if (!isInStore(block, k)) {
            throw new IllegalArgumentException("there is no such block or byte");
        }
        return store[block * SIZE + k];
    }

    public int change(int i) throws NoSuchElementException {
        if (i < 0 || i >= changes) {
            throw new NoSuchElementException("there is no such change");
        }
        return changeBlocks[i];
    }

    public long look(int what) throws NoSuchElementException {
        switch (what) {
            case 0:
                return headWord(AT_SEQUENCE) & 0xFFFFFFFFL;
            case 1:
                return headCount();
            case 2:
                return headIsRight() ? 1 : 0;
            case 3:
                return changes;
            case 4:
                return writesDone;
            case 5:
                return off ? 1 : 0;
            case 6:
                return writesLeft;
            default:
                throw new NoSuchElementException("what is not 0 .. 6");
        }
    }

    private static boolean isTarget(int block) {
        return block >= FIRST_TARGET && block < BLOCKS;
    }

    private static boolean isInStore(int block, int k) {
        return block >= 0 && block < BLOCKS && k >= 0 && k < SIZE;
    }

    /** Where the change of a block stands, or would stand, among the changes. */
    private int placeOf(int block) {
        int place = 0;
        while (place < changes && changeBlocks[place] < block) {
            place++;
        }
        return place;
    }

    private boolean isChangeOf(int place, int block) {
        return place < changes && changeBlocks[place] == block;
    }

    /** The caller has seen that one more change has room. */
    private void openPlace(int place, int block) {
        int behind = changes - place;
        System.arraycopy(changeBlocks, place, changeBlocks, place + 1, behind);
        System.arraycopy(changeBytes, place * SIZE, changeBytes, (place + 1) * SIZE, behind * SIZE);
        changeBlocks[place] = block;
        changes++;
    }

    /** With the power off nothing is done, so a commit or a recovery need not stop at the write that was lost. */
    private void write(int block, int[] from, int start) {
        if (writesLeft == 0) {
            off = true;
            return;
        }
        if (writesLeft > 0) {
            writesLeft--;
        }
        System.arraycopy(from, start, store, block * SIZE, SIZE);
        writesDone++;
    }

    private void writeFullHead(int sequence) {
        Arrays.fill(newHead, 0);
        setWord(AT_SEQUENCE, sequence);
        newHead[AT_COUNT] = changes;
        for (int i = 0; i < changes; i++) {
            newHead[AT_TARGETS + 2 * i] = changeBlocks[i] & BYTE;
            newHead[AT_TARGETS + 2 * i + 1] = changeBlocks[i] >>> 8;
        }
        setWord(AT_CHECK, payloadCheck(changes));
        write(HEAD, newHead, 0);
    }

    private void writeEmptyHead(int sequence) {
        Arrays.fill(newHead, 0);
        setWord(AT_SEQUENCE, sequence);
        write(HEAD, newHead, 0);
    }

    private void setWord(int place, int word) {
        for (int i = 0; i < 4; i++) {
            newHead[place + i] = (word >>> (8 * i)) & BYTE;
        }
    }

    private int headWord(int place) {
        int word = 0;
        for (int i = 0; i < 4; i++) {
            word |= store[HEAD * SIZE + place + i] << (8 * i);
        }
        return word;
    }

    private int headCount() {
        return store[HEAD * SIZE + AT_COUNT];
    }

    private int headTarget(int i) {
        int place = HEAD * SIZE + AT_TARGETS + 2 * i;
        return store[place] | store[place + 1] << 8;
    }

    private boolean headIsRight() {
        int count = headCount();
        return count >= 1
                && count <= MOST_CHANGES
                && targetsAreRight(count)
                && headWord(AT_CHECK) == payloadCheck(count);
    }

    private boolean targetsAreRight(int count) {
        int before = 0;
        for (int i = 0; i < count; i++) {
            int target = headTarget(i);
            if (!isTarget(target) || target <= before) {
                return false;
            }
            before = target;
        }
        return true;
    }

    /** The check of the first blocks of the payload, as they stand in the store. */
    private int payloadCheck(int blocks) {
        int word = -1;
        int end = (PAYLOAD + blocks) * SIZE;
        for (int i = PAYLOAD * SIZE; i < end; i++) {
            word = (word >>> 8) ^ checkSteps[(word ^ store[i]) & BYTE];
        }
        return ~word;
    }

    /**
     * The check's eight steps of one bit. They act on a word's lowest byte and on the rest apart,
     * so a row of them for each byte spares doing them for every byte of the payload.
     */
    private static int eightSteps(int word) {
        for (int i = 0; i < 8; i++) {
            int out = word & 1;
            word >>>= 1;
            if (out == 1) {
                word ^= POLYNOMIAL;
            }
        }
        return word;
    }
}
