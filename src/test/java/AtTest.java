/** Promise 10: at. */
public final class AtTest {
    public static void main(String[] args) {
        Due due = new Due();
        for (int block = 0; block < 96; block++) {
            ownBytesAlone(due, block);
        }
        BlockJournal x = new BlockJournal();
        int[][] wrong = {{96, 0}, {-1, 0}, {0, 64}, {0, -1}, {95, 64}, {1, -1}, {-1, 64}, {96, -1},
            {Integer.MAX_VALUE, 0}, {Integer.MIN_VALUE, 0}, {0, Integer.MAX_VALUE}, {0, Integer.MIN_VALUE},
            {0x4000000, 0}};
        for (int[] place : wrong) {
            due.fails("at(" + place[0] + ", " + place[1] + ")", IllegalArgumentException.class,
                    () -> x.at(place[0], place[1]));
        }
        BlockJournal y = Journals.withChanges(30);
        due.is("a change is not in the store yet", 0, () -> y.at(30, 0));
        due.end();
    }

    /** A block has the bytes that it was given, and the blocks beside it have none of them. */
    private static void ownBytesAlone(Due due, int block) {
        BlockJournal x = new BlockJournal();
        for (int k = 0; k < 64; k++) {
            x.spoil(block, k, 100 + 3 * k);
        }
        for (int k = 0; k < 64; k++) {
            String place = "byte " + k + " of block " + block;
            due.compare(place, (100 + 3 * k) & 255, x.at(block, k));
            due.compare(place + ", the block before", 0, x.at((block + 95) % 96, k));
            due.compare(place + ", the block behind", 0, x.at((block + 1) % 96, k));
        }
    }
}
