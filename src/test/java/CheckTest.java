import java.util.Arrays;
import java.util.zip.CRC32C;

/** The check of bytes, as a commit lays it down in the head, against the document's steps done bit by bit. */
public final class CheckTest {
    private static final Due DUE = new Due();

    public static void main(String[] args) {
        knownChecks();
        equalBytes();
        eachByteAtEachPlace();
        overSeveralBlocks();
        DUE.end();
    }

    private static long steps(int[]... blocks) {
        long word = 0xFFFFFFFFL;
        for (int[] block : blocks) {
            for (int value : block) {
                word ^= value;
                for (int i = 0; i < 8; i++) {
                    long out = word % 2;
                    word /= 2;
                    if (out == 1) {
                        word ^= 2197175160L;
                    }
                }
            }
        }
        return 0xFFFFFFFFL - word;
    }

    /** A commit of these blocks that loses the power behind its head, whose check is read. */
    private static long checkOf(int[]... blocks) {
        BlockJournal x = new BlockJournal();
        for (int i = 0; i < blocks.length; i++) {
            for (int k = 0; k < 64; k += 8) {
                long v = 0;
                for (int b = 7; b >= 0; b--) {
                    v = v << 8 | blocks[i][k + b];
                }
                x.feed(8, v);
            }
            x.put(25 + i);
        }
        x.lose(blocks.length + 2);
        x.commit();
        DUE.compare("the head is right", 1L, x.look(2));
        return x.at(0, 59) | x.at(0, 60) << 8 | x.at(0, 61) << 16 | (long) x.at(0, 62) << 24;
    }

    /** The library's CRC-32C is a witness that the steps of this test were told rightly. */
    private static void knownChecks() {
        DUE.about("The check of bytes is a word of 32 bits, all 1 at first .. At last all its bits are turned over.");
        CRC32C library = new CRC32C();
        library.update(new byte[64]);
        DUE.compare("64 bytes of 0", library.getValue(), checkOf(new int[64]));
        DUE.compare("64 bytes of 0, by the steps", library.getValue(), steps(new int[64]));
    }

    private static void equalBytes() {
        DUE.about("For each byte: the word becomes itself ^ the byte; then eight times: its bits go down by one");
        for (int value = 0; value < 256; value++) {
            int[] block = new int[64];
            Arrays.fill(block, value);
            DUE.compare("64 bytes of " + value, steps(block), checkOf(block));
        }
    }

    private static void eachByteAtEachPlace() {
        DUE.about("For each byte: the first and the last of a block too");
        for (int k = 0; k < 64; k++) {
            for (int value : new int[] {1, 128, 255}) {
                int[] block = new int[64];
                block[k] = value;
                DUE.compare("byte " + k + " is " + value, steps(block), checkOf(block));
            }
        }
    }

    private static void overSeveralBlocks() {
        DUE.about("the check of the blocks 1 .. n is one check of all their bytes");
        for (int n = 1; n <= 24; n++) {
            int[][] blocks = new int[n][64];
            for (int i = 0; i < n; i++) {
                for (int k = 0; k < 64; k++) {
                    blocks[i][k] = (i * 59 + k * 83 + n * 7) & 255;
                }
            }
            DUE.compare(n + " blocks", steps(blocks), checkOf(blocks));
        }
    }
}
