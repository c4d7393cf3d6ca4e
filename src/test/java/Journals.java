/** Objects of BlockJournal in states that several tests begin with, and looks at a whole of them. */
final class Journals {
    private Journals() {
    }

    /** Puts changes that begin with the bytes 1, 2, .. n into the blocks of these numbers. */
    static BlockJournal withChanges(int... blocks) {
        BlockJournal journal = new BlockJournal();
        for (int i = 0; i < blocks.length; i++) {
            journal.feed(1, i + 1);
            journal.put(blocks[i]);
        }
        return journal;
    }

    /** 24 changes of the blocks 25, 27, .. 71. */
    static BlockJournal full() {
        int[] blocks = new int[24];
        for (int i = 0; i < blocks.length; i++) {
            blocks[i] = 25 + 2 * i;
        }
        return withChanges(blocks);
    }

    /** A commit of withChanges(blocks) that lost the power behind so many writes; it is on again. */
    static BlockJournal cut(int writes, int... blocks) {
        BlockJournal journal = withChanges(blocks);
        journal.lose(writes + 1);
        journal.commit();
        journal.power();
        return journal;
    }

    static void powerOff(BlockJournal journal) {
        journal.put(25);
        journal.lose(1);
        journal.commit();
    }

    /**
     * The head, a byte of each block and every answer of look and change, so that two states can be
     * compared: two of them and what goes before stay below the 512 calls that an object is for.
     */
    static String state(BlockJournal journal) {
        StringBuilder text = new StringBuilder();
        for (int k = 0; k < 64; k++) {
            text.append(journal.at(0, k)).append(' ');
        }
        for (int block = 1; block < 96; block++) {
            text.append(journal.at(block, 0)).append(' ');
        }
        for (int what = 0; what <= 6; what++) {
            text.append(journal.look(what)).append(' ');
        }
        for (int i = 0; i < journal.look(3); i++) {
            text.append(journal.change(i)).append(' ');
        }
        return text.toString();
    }
}
