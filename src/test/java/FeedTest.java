/** Promise 2: feed, and the tape. */
public final class FeedTest {
    private static final Due DUE = new Due();

    public static void main(String[] args) {
        lowestBytesLowestFirst();
        behindTheTape();
        wrongNumbersOfBytes();
        atMost64();
        zerosBehindTheTape();
        DUE.end();
    }

    private static void lowestBytesLowestFirst() {
        DUE.about("The n lowest bytes of v, lowest first");
        for (long v : new long[] {0x8091A2B3C4D5E6F7L, 0x0102030405060708L, 0, 1, -1, 255, 256, 0x80,
            Long.MIN_VALUE, Long.MAX_VALUE, Integer.MIN_VALUE, 0xFFFFFFFFL, 0x100000000L}) {
            for (int n = 1; n <= 8; n++) {
                BlockJournal x = new BlockJournal();
                x.feed(n, v);
                x.put(25);
                x.commit();
                int[] bytes = new int[64];
                Journals.number(bytes, 0, n, v);
                Journals.sameBlock(DUE, "feed(" + n + ", " + v + ")", x, 25, bytes);
            }
        }
    }

    private static void behindTheTape() {
        DUE.about("come behind the tape: how many it has.");
        BlockJournal x = new BlockJournal();
        DUE.is("feed(8)", 8, () -> x.feed(8, 0x8091A2B3C4D5E6F7L));
        DUE.is("feed(3) of more bytes", 11, () -> x.feed(3, 0x44332211L));
        DUE.is("feed(1) below 0", 12, () -> x.feed(1, -1L));
        DUE.is("feed(2) of 0", 14, () -> x.feed(2, 0L));
        DUE.is("feed(1)", 15, () -> x.feed(1, 0x1FEL));
        x.put(25);
        DUE.is("the tape is used up", 1, () -> x.feed(1, 7));
        x.commit();
        Journals.sameBlock(DUE, "the tape", x, 25, Journals.block(
                0xF7, 0xE6, 0xD5, 0xC4, 0xB3, 0xA2, 0x91, 0x80, 0x11, 0x22, 0x33, 0xFF, 0, 0, 0xFE));
        DUE.is("the tape stays over a commit", 2, () -> x.feed(1, 7));
    }

    private static void wrongNumbersOfBytes() {
        DUE.about("Throws IllegalArgumentException when n is not 1 .. 8");
        BlockJournal x = new BlockJournal();
        for (int n : new int[] {0, -1, 9, 10, 64, 65, 257, -8, Integer.MIN_VALUE, Integer.MIN_VALUE + 1,
            Integer.MAX_VALUE, Integer.MAX_VALUE - 64}) {
            DUE.fails("feed(" + n + ")", IllegalArgumentException.class, () -> x.feed(n, 1));
        }
        DUE.is("feed(1), the fewest", 1, () -> x.feed(1, 1));
        DUE.is("feed(8), the most", 9, () -> x.feed(8, 1));
        for (int n : new int[] {Integer.MAX_VALUE, Integer.MAX_VALUE - 8, Integer.MIN_VALUE, -9, -1, 0, 9}) {
            DUE.fails("feed(" + n + ") on 9 bytes", IllegalArgumentException.class, () -> x.feed(n, 1));
        }
    }

    /** From each length that a tape can have, with each number of bytes. */
    private static void atMost64() {
        DUE.about("IllegalStateException when it would have more than 64.");
        for (int length = 0; length <= 64; length++) {
            for (int n = 1; n <= 8; n++) {
                BlockJournal x = new BlockJournal();
                Journals.feedBytes(x, length, 1);
                int bytes = n;
                String call = "feed(" + n + ") on " + length;
                if (length + n <= 64) {
                    DUE.is(call, length + n, () -> x.feed(bytes, -1));
                } else {
                    DUE.fails(call, IllegalStateException.class, () -> x.feed(bytes, -1));
                }
            }
        }
        BlockJournal full = new BlockJournal();
        for (int i = 0; i < 8; i++) {
            full.feed(8, 0x0101010101010101L * (i + 1));
        }
        DUE.fails("feed(1) on a full tape", IllegalStateException.class, () -> full.feed(1, -1));
        full.put(95);
        DUE.is("feed(8) when it is used up", 8, () -> full.feed(8, 0));
        full.commit();
        for (int k = 0; k < 64; k++) {
            DUE.compare("byte " + k + " of a full tape", k / 8 + 1, full.at(95, k));
        }
    }

    /** Each tape comes behind a full one, over a block that has no 0s. */
    private static void zerosBehindTheTape() {
        DUE.about("A block that is made of the tape has 0s behind its bytes.");
        for (int length = 0; length <= 64; length++) {
            BlockJournal x = new BlockJournal();
            Journals.feedBytes(x, 64, 101);
            x.put(30);
            Journals.feedBytes(x, length, 11);
            x.put(30);
            for (int k = 0; k < 64; k++) {
                x.spoil(30, k, 255);
            }
            x.commit();
            int[] bytes = new int[64];
            for (int k = 0; k < length; k++) {
                bytes[k] = 11 + k;
            }
            Journals.sameBlock(DUE, "a tape of " + length, x, 30, bytes);
            Journals.sameBlock(DUE, "a tape of " + length, x, 1, bytes);
        }
    }
}
