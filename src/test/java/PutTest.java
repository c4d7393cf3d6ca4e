/** Promise 3: put. */
public final class PutTest {
    private static final Due DUE = new Due();

    public static void main(String[] args) {
        changesStandByRisingNumbers();
        laterChangeTakesThePlace();
        emptyTapeIsBlockOfZeros();
        wrongBlocks();
        atMost24();
        putWithThePowerOff();
        DUE.end();
    }

    private static void changesStandByRisingNumbers() {
        BlockJournal x = new BlockJournal();
        int[] blocks = {60, 25, 95, 40, 26};
        for (int i = 0; i < blocks.length; i++) {
            int block = blocks[i];
            x.feed(2, 0x100 * block + i);
            DUE.is("put(" + block + ")", i + 1, () -> x.put(block));
        }
        int[] rising = {25, 26, 40, 60, 95};
        for (int i = 0; i < rising.length; i++) {
            int at = i;
            DUE.is("change(" + i + ")", rising[i], () -> x.change(at));
        }
        x.commit();
        for (int i = 0; i < blocks.length; i++) {
            int block = blocks[i];
            DUE.is("first byte of " + block, i, () -> x.at(block, 0));
            DUE.is("second byte of " + block, block, () -> x.at(block, 1));
        }
    }

    private static void laterChangeTakesThePlace() {
        BlockJournal x = Journals.withChanges(30, 31, 32);
        x.feed(8, -1L);
        x.put(31);
        x.feed(1, 7);
        DUE.is("put again", 3, () -> x.put(31));
        DUE.is("change(1)", 31, () -> x.change(1));
        x.commit();
        DUE.is("the later bytes", 7, () -> x.at(31, 0));
        DUE.is("0 behind them", 0, () -> x.at(31, 1));
        DUE.is("the change before", 1, () -> x.at(30, 0));
        DUE.is("the change behind", 3, () -> x.at(32, 0));
    }

    private static void emptyTapeIsBlockOfZeros() {
        BlockJournal x = new BlockJournal();
        x.feed(8, -1L);
        x.put(50);
        DUE.is("put of an empty tape", 2, () -> x.put(51));
        x.spoil(51, 63, 9);
        x.commit();
        DUE.is("block 50", 255, () -> x.at(50, 7));
        DUE.is("block 51", 0, () -> x.at(51, 0));
        DUE.is("the whole block is written", 0, () -> x.at(51, 63));
    }

    private static void wrongBlocks() {
        BlockJournal x = new BlockJournal();
        x.feed(4, 1);
        for (int block : new int[] {24, 96, 0, 1, -1, 281, Integer.MIN_VALUE, Integer.MAX_VALUE}) {
            DUE.fails("put(" + block + ")", IllegalArgumentException.class, () -> x.put(block));
        }
        DUE.is("the tape is still there", 5, () -> x.feed(1, 1));
        DUE.is("no changes", 0L, () -> x.look(3));
        DUE.is("put(25), the lowest", 1, () -> x.put(25));
        DUE.is("put(95), the highest", 2, () -> x.put(95));
    }

    private static void atMost24() {
        BlockJournal x = Journals.full();
        DUE.is("24 changes", 24L, () -> x.look(3));
        x.feed(3, 0x030201);
        DUE.fails("put(26) as the 25th", IllegalStateException.class, () -> x.put(26));
        DUE.fails("put(95) as the 25th", IllegalStateException.class, () -> x.put(95));
        DUE.fails("put(96) goes first", IllegalArgumentException.class, () -> x.put(96));
        DUE.fails("put(24) goes first", IllegalArgumentException.class, () -> x.put(24));
        DUE.is("the tape is still there", 4, () -> x.feed(1, 4));
        DUE.is("put(71) has a change", 24, () -> x.put(71));
        DUE.is("put(25) has a change", 24, () -> x.put(25));
        x.commit();
        DUE.is("block 71", 4, () -> x.at(71, 3));
        DUE.is("block 69", 23, () -> x.at(69, 0));
        DUE.is("block 25", 0, () -> x.at(25, 0));
    }

    private static void putWithThePowerOff() {
        BlockJournal x = new BlockJournal();
        Journals.powerOff(x);
        DUE.is("feed", 1, () -> x.feed(1, 1));
        DUE.is("put", 1, () -> x.put(30));
    }
}
