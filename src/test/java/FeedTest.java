/** Promise 2: feed. */
public final class FeedTest {
    private static final Due DUE = new Due();

    public static void main(String[] args) {
        bytesComeLowestFirst();
        wrongNumbersOfBytes();
        tapeHasAtMost64();
        wrongNumberGoesBeforeFullTape();
        DUE.end();
    }

    private static void bytesComeLowestFirst() {
        BlockJournal x = new BlockJournal();
        DUE.is("feed(8)", 8, () -> x.feed(8, 0x8091A2B3C4D5E6F7L));
        DUE.is("feed(3) of more bytes", 11, () -> x.feed(3, 0x44332211L));
        DUE.is("feed(1) below 0", 12, () -> x.feed(1, -1L));
        DUE.is("feed(2) of 0", 14, () -> x.feed(2, 0L));
        DUE.is("feed(1)", 15, () -> x.feed(1, 0x1FEL));
        x.put(25);
        x.commit();
        int[] bytes = {0xF7, 0xE6, 0xD5, 0xC4, 0xB3, 0xA2, 0x91, 0x80, 0x11, 0x22, 0x33, 0xFF, 0, 0, 0xFE, 0};
        for (int k = 0; k < bytes.length; k++) {
            int at = k;
            DUE.is("byte " + k, bytes[k], () -> x.at(25, at));
        }
    }

    private static void wrongNumbersOfBytes() {
        BlockJournal x = new BlockJournal();
        for (int n : new int[] {0, -1, 9, 64, Integer.MIN_VALUE, Integer.MAX_VALUE}) {
            DUE.fails("feed(" + n + ")", IllegalArgumentException.class, () -> x.feed(n, 1));
        }
        DUE.is("nothing came onto the tape", 1, () -> x.feed(1, 1));
    }

    private static void tapeHasAtMost64() {
        BlockJournal x = new BlockJournal();
        for (int i = 0; i < 7; i++) {
            x.feed(8, 0x0101010101010101L * (i + 1));
        }
        x.feed(5, 0x0909090909L);
        DUE.fails("feed(4) to 65", IllegalStateException.class, () -> x.feed(4, -1));
        DUE.is("feed(3) to 64", 64, () -> x.feed(3, 0x0A0A0AL));
        DUE.fails("feed(1) to 65", IllegalStateException.class, () -> x.feed(1, -1));
        x.put(95);
        DUE.is("the tape is used up", 8, () -> x.feed(8, 0));
        x.commit();
        for (int k = 0; k < 64; k++) {
            int at = k;
            int want = k < 56 ? k / 8 + 1 : k < 61 ? 9 : 10;
            DUE.is("byte " + k, want, () -> x.at(95, at));
        }
    }

    private static void wrongNumberGoesBeforeFullTape() {
        BlockJournal x = new BlockJournal();
        for (int i = 0; i < 8; i++) {
            x.feed(8, -1);
        }
        DUE.fails("feed(0) on a full tape", IllegalArgumentException.class, () -> x.feed(0, 1));
        DUE.fails("feed(9) on a full tape", IllegalArgumentException.class, () -> x.feed(9, 1));
    }
}
