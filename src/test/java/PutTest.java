/** Promise 3: put, and the changes. */
public final class PutTest {
    private static final Due DUE = new Due();

    public static void main(String[] args) {
        tapeIsUsedUp();
        inPlaceOfTheOneThatItHas();
        howManyChanges();
        byRisingNumbers();
        wrongBlocks();
        atMost24();
        withThePowerOff();
        DUE.end();
    }

    private static void tapeIsUsedUp() {
        DUE.about("The tape, which is used up, is the change of a block");
        BlockJournal x = new BlockJournal();
        Journals.feedBytes(x, 64, 1);
        x.put(50);
        DUE.is("put of an empty tape", 2, () -> x.put(51));
        DUE.is("the tape has one byte", 1, () -> x.feed(1, 9));
        x.put(52);
        x.spoil(51, 63, 9);
        x.commit();
        int[] bytes = new int[64];
        for (int k = 0; k < 64; k++) {
            bytes[k] = k + 1;
        }
        Journals.sameBlock(DUE, "a full tape", x, 50, bytes);
        Journals.sameBlock(DUE, "an empty tape", x, 51, new int[64]);
        Journals.sameBlock(DUE, "a tape of one byte", x, 52, Journals.block(9));
    }

    private static void inPlaceOfTheOneThatItHas() {
        DUE.about("in place of the one that it has");
        for (int place = 0; place < 3; place++) {
            int block = 30 + place;
            BlockJournal x = Journals.withChanges(30, 31, 32);
            x.feed(8, -1L);
            x.put(block);
            x.feed(1, 7);
            DUE.is("put again", 3, () -> x.put(block));
            for (int i = 0; i < 3; i++) {
                int at = i;
                DUE.is("change(" + i + ")", 30 + i, () -> x.change(at));
            }
            x.commit();
            for (int i = 0; i < 3; i++) {
                int[] bytes = Journals.block(i == place ? 7 : i + 1);
                Journals.sameBlock(DUE, "put again of " + block, x, 30 + i, bytes);
            }
        }
        BlockJournal zeros = Journals.withChanges(30);
        DUE.is("an empty tape in place of a change", 1, () -> zeros.put(30));
        zeros.commit();
        DUE.is("block 30", 0, () -> zeros.at(30, 0));
    }

    private static void howManyChanges() {
        DUE.about("how many changes there are.");
        BlockJournal x = new BlockJournal();
        for (int i = 0; i < 24; i++) {
            int block = 95 - 2 * i;
            DUE.is("put(" + block + ")", i + 1, () -> x.put(block));
            DUE.is("put(" + block + ") again", i + 1, () -> x.put(block));
        }
        x.commit();
        DUE.is("the first behind a commit", 1, () -> x.put(60));
        x.drop();
        DUE.is("the first behind a drop", 1, () -> x.put(61));
    }

    private static void byRisingNumbers() {
        DUE.about("Changes are up to 24 blocks with their bytes, by rising numbers 25 .. 95");
        BlockJournal x = new BlockJournal();
        int[] blocks = {60, 25, 95, 40, 26};
        for (int i = 0; i < blocks.length; i++) {
            x.feed(2, 0x100 * blocks[i] + i);
            x.put(blocks[i]);
        }
        int[] rising = {25, 26, 40, 60, 95};
        for (int i = 0; i < rising.length; i++) {
            int at = i;
            DUE.is("change(" + i + ")", rising[i], () -> x.change(at));
        }
        x.commit();
        for (int i = 0; i < blocks.length; i++) {
            int block = blocks[i];
            DUE.is("first byte of " + block, i, () -> x.at(block, 0));
            DUE.is("second byte of " + block, block, () -> x.at(block, 1));
        }
        for (int i = 0; i < rising.length; i++) {
            int at = i;
            DUE.is("payload " + (i + 1), rising[i], () -> x.at(1 + at, 1));
        }
    }

    private static void wrongBlocks() {
        DUE.about("Throws IllegalArgumentException when block is not 25 .. 95");
        BlockJournal x = new BlockJournal();
        x.feed(4, 1);
        for (int block : new int[] {24, 96, 0, 1, 23, 97, -1, -25, 281, 25 + 65536, Integer.MIN_VALUE,
            Integer.MIN_VALUE + 25, Integer.MAX_VALUE}) {
            DUE.fails("put(" + block + ")", IllegalArgumentException.class, () -> x.put(block));
        }
        DUE.is("the tape is still there", 5, () -> x.feed(1, 1));
        DUE.is("no changes", 0L, () -> x.look(3));
        DUE.is("put(25), the lowest", 1, () -> x.put(25));
        DUE.is("put(95), the highest", 2, () -> x.put(95));
        for (int block = 25; block <= 95; block++) {
            int number = block;
            DUE.is("put(" + block + ")", 1, () -> new BlockJournal().put(number));
        }
    }

    private static void atMost24() {
        DUE.about("IllegalStateException when there are 24 of others.");
        BlockJournal x = Journals.full();
        x.feed(3, 0x030201);
        for (int block = 25; block <= 95; block++) {
            int number = block;
            if (block > 71 || block % 2 == 0) {
                DUE.fails("put(" + block + ") as the 25th", IllegalStateException.class, () -> x.put(number));
            }
        }
        DUE.is("24 changes", 24L, () -> x.look(3));
        DUE.is("the tape is still there", 4, () -> x.feed(1, 4));
        DUE.is("put(71) has a change: 23 of others", 24, () -> x.put(71));
        DUE.is("put(25) has a change: 23 of others", 24, () -> x.put(25));
        DUE.fails("put(26) still", IllegalStateException.class, () -> x.put(26));
        x.commit();
        DUE.is("block 71", 4, () -> x.at(71, 3));
        DUE.is("block 69", 23, () -> x.at(69, 0));
        DUE.is("block 25", 0, () -> x.at(25, 0));
        DUE.is("block 26", 0, () -> x.at(26, 0));
        DUE.is("put(26) behind the commit", 1, () -> x.put(26));

        BlockJournal y = Journals.withChanges(Journals.everySecond(23));
        DUE.is("put(95) as the 24th", 24, () -> y.put(95));
        DUE.fails("put(94) as the 25th", IllegalStateException.class, () -> y.put(94));
    }

    private static void withThePowerOff() {
        DUE.about("put throws nothing else: the power may be off.");
        BlockJournal x = Journals.dark();
        DUE.is("feed", 1, () -> x.feed(1, 1));
        DUE.is("put", 1, () -> x.put(30));
        DUE.is("no write", 0L, () -> x.look(4));
    }
}
