/** Promise 10: at. */
public final class AtTest {
    public static void main(String[] args) {
        Due due = new Due();
        BlockJournal x = new BlockJournal();
        for (int block = 0; block < 96; block++) {
            for (int k = 0; k < 64; k++) {
                x.spoil(block, k, block * 3 + k * 7);
            }
        }
        for (int block = 0; block < 96; block++) {
            for (int k = 0; k < 64; k++) {
                int b = block;
                int at = k;
                due.is("at(" + b + ", " + at + ")", (b * 3 + at * 7) & 255, () -> x.at(b, at));
            }
        }
        int[][] wrong = {{96, 0}, {-1, 0}, {0, 64}, {0, -1}, {95, 64}, {1, -1}, {-1, 64}, {96, -1},
            {Integer.MAX_VALUE, 0}, {Integer.MIN_VALUE, 0}, {0, Integer.MAX_VALUE}, {0, Integer.MIN_VALUE},
            {0x4000000, 0}};
        for (int[] place : wrong) {
            due.fails("at(" + place[0] + ", " + place[1] + ")", IllegalArgumentException.class,
                    () -> x.at(place[0], place[1]));
        }
        BlockJournal y = Journals.withChanges(30);
        due.is("a change is not in the store yet", 0, () -> y.at(30, 0));
        due.end();
    }
}
