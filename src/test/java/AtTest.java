/** Promise 10: at. */
public final class AtTest {
    private static final Due DUE = new Due();

    public static void main(String[] args) {
        byteOfBlock();
        noSuchBlock();
        noSuchByte();
        ofTheStore();
        withThePowerOff();
        DUE.end();
    }

    /** A block has the bytes that it was given, and the blocks beside it have none of them. */
    private static void byteOfBlock() {
        DUE.about("Byte k of a block of the store.");
        for (int block = 0; block < 96; block++) {
            BlockJournal x = new BlockJournal();
            for (int k = 0; k < 64; k++) {
                x.spoil(block, k, 100 + 3 * k);
            }
            for (int k = 0; k < 64; k++) {
                String place = "byte " + k + " of block " + block;
                DUE.compare(place, (100 + 3 * k) & 255, x.at(block, k));
                DUE.compare(place + ", the block before", 0, x.at((block + 95) % 96, k));
                DUE.compare(place + ", the block behind", 0, x.at((block + 1) % 96, k));
            }
        }
    }

    private static void noSuchBlock() {
        DUE.about("Throws IllegalArgumentException when there is no such block");
        BlockJournal x = new BlockJournal();
        for (int block : new int[] {-1, 96, -96, 97, 0x4000000, 0x3FFFFFF, Integer.MIN_VALUE, Integer.MAX_VALUE}) {
            for (int k : new int[] {0, 63, 64, -1}) {
                DUE.fails("at(" + block + ", " + k + ")", IllegalArgumentException.class, () -> x.at(block, k));
            }
        }
        DUE.is("block 0", 0, () -> x.at(0, 0));
        DUE.is("block 95", 0, () -> x.at(95, 0));
    }

    private static void noSuchByte() {
        DUE.about("or byte.");
        BlockJournal x = new BlockJournal();
        for (int k : new int[] {-1, 64, -64, 65, 128, Integer.MIN_VALUE, Integer.MAX_VALUE}) {
            for (int block : new int[] {0, 1, 50, 95}) {
                DUE.fails("at(" + block + ", " + k + ")", IllegalArgumentException.class, () -> x.at(block, k));
            }
        }
        DUE.is("byte 0", 0, () -> x.at(50, 0));
        DUE.is("byte 63", 0, () -> x.at(50, 63));
    }

    private static void ofTheStore() {
        DUE.about("of the store: changes and the tape are not in it");
        BlockJournal x = Journals.withChanges(30);
        x.feed(1, 9);
        DUE.is("a change", 0, () -> x.at(30, 0));
        DUE.is("the payload", 0, () -> x.at(1, 0));
        x.commit();
        DUE.is("the change behind a commit", 1, () -> x.at(30, 0));
        DUE.is("the payload behind a commit", 1, () -> x.at(1, 0));
    }

    private static void withThePowerOff() {
        DUE.about("at throws nothing else: the power may be off.");
        BlockJournal x = Journals.withChanges(30);
        x.lose(2);
        x.commit();
        DUE.is("at", 1, () -> x.at(1, 0));
    }
}
