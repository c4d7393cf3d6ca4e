import java.util.Arrays;
import java.util.zip.CRC32C;

/** Objects of BlockJournal in states that several tests begin with, and looks at a whole of them. */
final class Journals {
    private Journals() {
    }

    /** Puts changes that begin with the bytes 1, 2, .. n into the blocks of these numbers. */
    static BlockJournal withChanges(int... blocks) {
        BlockJournal journal = new BlockJournal();
        for (int i = 0; i < blocks.length; i++) {
            journal.feed(1, i + 1);
            journal.put(blocks[i]);
        }
        return journal;
    }

    /** The blocks 25, 27, 29, ..: so many of them, with gaps between them. */
    static int[] everySecond(int many) {
        int[] blocks = new int[many];
        for (int i = 0; i < many; i++) {
            blocks[i] = 25 + 2 * i;
        }
        return blocks;
    }

    /** 24 changes of the blocks 25, 27, .. 71. */
    static BlockJournal full() {
        return withChanges(everySecond(24));
    }

    /** A commit of withChanges(blocks) that lost the power behind so many writes; it is on again. */
    static BlockJournal cut(int writes, int... blocks) {
        BlockJournal journal = withChanges(blocks);
        journal.lose(writes + 1);
        journal.commit();
        journal.power();
        return journal;
    }

    static void powerOff(BlockJournal journal) {
        journal.put(25);
        journal.lose(1);
        journal.commit();
    }

    static BlockJournal dark() {
        BlockJournal journal = new BlockJournal();
        powerOff(journal);
        return journal;
    }

    /** The bytes first, first + 1, .. come onto the tape: so many of them. */
    static void feedBytes(BlockJournal journal, int many, int first) {
        for (int i = 0; i < many; i++) {
            journal.feed(1, first + i);
        }
    }

    static void sequence(BlockJournal journal, long sequence) {
        for (int k = 0; k < 4; k++) {
            journal.spoil(0, k, (int) (sequence >>> 8 * k));
        }
    }

    /** The head that the document tells, its check taken of payload blocks with these bytes. */
    static int[] head(long sequence, int[] targets, int[][] payload) {
        CRC32C check = new CRC32C();
        for (int[] block : payload) {
            for (int value : block) {
                check.update(value);
            }
        }
        int[] head = new int[64];
        number(head, 0, 4, sequence);
        head[4] = targets.length;
        for (int i = 0; i < targets.length && i < 27; i++) {
            number(head, 5 + 2 * i, 2, targets[i]);
        }
        number(head, 59, 4, check.getValue());
        return head;
    }

    static int[] emptyHead(long sequence) {
        int[] head = new int[64];
        number(head, 0, 4, sequence);
        return head;
    }

    static void number(int[] block, int place, int bytes, long value) {
        for (int i = 0; i < bytes; i++) {
            block[place + i] = (int) (value >>> 8 * i) & 255;
        }
    }

    /** A block that begins with these bytes. */
    static int[] block(int... bytes) {
        return Arrays.copyOf(bytes, 64);
    }

    static void sameBlock(Due due, String what, BlockJournal journal, int number, int[] bytes) {
        for (int k = 0; k < 64; k++) {
            due.compare(what + ", byte " + k + " of block " + number, bytes[k], journal.at(number, k));
        }
    }

    /**
     * The head, a byte of each block and every answer of look and change, so that two states can be
     * compared: two of them and what goes before stay below the 512 calls that an object is for.
     */
    static String state(BlockJournal journal) {
        StringBuilder text = new StringBuilder();
        for (int k = 0; k < 64; k++) {
            text.append(journal.at(0, k)).append(' ');
        }
        for (int block = 1; block < 96; block++) {
            text.append(journal.at(block, 0)).append(' ');
        }
        for (int what = 0; what <= 6; what++) {
            text.append(journal.look(what)).append(' ');
        }
        for (int i = 0; i < journal.look(3); i++) {
            text.append(journal.change(i)).append(' ');
        }
        return text.toString();
    }
}
