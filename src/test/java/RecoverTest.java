/** Promise 6: recover, and when the head is right. */
public final class RecoverTest {
    private static final Due DUE = new Due();
    // Few bytes of each payload block are laid, for an object is for 512 calls alone.
    private static final int[] LAID = {0, 1, 31, 63};

    public static void main(String[] args) {
        rightIfItsCountIs1To24();
        thatManyTargetsRise();
        targetsAre25To95();
        targetsHaveTwoBytes();
        checkOfAsManyBlocks();
        checkHasFourBytes();
        bytesThatAreNotAsked();
        payloadIntoTheTargets();
        headWithOneMore();
        sequenceWraps();
        nothingIsWrittenWithoutRightHead();
        lostAtEachWrite();
        changesAndTapeStay();
        throwsWithThePowerOff();
        DUE.end();
    }

    private static void rightIfItsCountIs1To24() {
        DUE.about("The head is right if its count is 1 .. 24");
        rightIs("count 0", false, 0, rising(24), 0);
        for (int count = 1; count <= 24; count++) {
            rightIs("count " + count, true, count, rising(24), count);
        }
        // Behind the 24 targets lie the six 0s: three targets more could stand there.
        rightIs("count 25, all else as it would be right", false, 25, rising(25), 25);
        rightIs("count 26, all else as it would be right", false, 26, rising(26), 26);
        for (int count : new int[] {25, 26, 27, 128, 152, 254, 255}) {
            rightIs("count " + count, false, count, rising(24), 24);
        }
    }

    private static void thatManyTargetsRise() {
        DUE.about("that many targets rise");
        rightIs("rising", true, 2, new int[] {30, 31}, 2);
        rightIs("equal", false, 2, new int[] {30, 30}, 2);
        rightIs("falling", false, 2, new int[] {31, 30}, 2);
        rightIs("last of three falls", false, 3, new int[] {30, 40, 35}, 3);
        rightIs("last of three as the first", false, 3, new int[] {30, 40, 30}, 3);
        rightIs("a 0 among them", false, 3, new int[] {30, 40}, 3);
        rightIs("equal behind the count", true, 2, new int[] {30, 31, 31}, 2);
        rightIs("falling behind the count", true, 1, new int[] {31, 30}, 1);
        for (int i = 1; i < 24; i++) {
            int[] targets = rising(24);
            targets[i] = targets[i - 1];
            rightIs("target " + i + " of 24 as the one before", false, 24, targets, 24);
            rightIs("the " + i + " before it", true, i, targets, i);
        }
    }

    private static void targetsAre25To95() {
        DUE.about("and are 25 .. 95");
        rightIs("the lowest", true, 1, new int[] {25}, 1);
        rightIs("the highest", true, 1, new int[] {95}, 1);
        rightIs("lowest and highest", true, 2, new int[] {25, 95}, 2);
        for (int target : new int[] {24, 1, 0, 96, 97, 127, 128, 255}) {
            rightIs("target " + target, false, 1, new int[] {target}, 1);
        }
        rightIs("24 before others", false, 2, new int[] {24, 30}, 2);
        rightIs("96 behind others", false, 2, new int[] {30, 96}, 2);
        rightIs("96 behind the count", true, 1, new int[] {30, 96}, 1);
        int[] upTo96 = rising(24);
        upTo96[23] = 96;
        rightIs("the 24th is 96", false, 24, upTo96, 24);
    }

    private static void targetsHaveTwoBytes() {
        DUE.about("24 targets (two bytes each, lowest first)");
        for (int target : new int[] {256, 256 + 30, 256 + 95, 25 * 256, 30 * 256, 95 * 256, 0x8000 + 30, 65535}) {
            rightIs("target " + target, false, 1, new int[] {target}, 1);
            rightIs("target " + target + " behind 25", false, 2, new int[] {25, target}, 2);
        }
    }

    private static void checkOfAsManyBlocks() {
        DUE.about("its check is that of as many payload blocks");
        for (int count : new int[] {1, 2, 23, 24}) {
            int[] targets = rising(count);
            rightIs("check of " + count, true, count, targets, count);
            rightIs("check of 1 fewer than " + count, false, count, targets, count - 1);
            if (count < 24) {
                rightIs("check of 1 more than " + count, false, count, targets, count + 1);
                BlockJournal x = laid(count, targets, count);
                x.spoil(count + 1, 0, x.at(count + 1, 0) ^ 1);
                DUE.is("the payload behind " + count, 1L, () -> x.look(2));
            }
            for (int block = 1; block <= count; block++) {
                for (int k : new int[] {0, 63}) {
                    BlockJournal x = laid(count, targets, count);
                    x.spoil(block, k, x.at(block, k) ^ 1);
                    DUE.is("spoiled payload " + block + " of " + count, 0L, () -> x.look(2));
                    DUE.is("recover()", 0, x::recover);
                }
            }
        }
    }

    private static void checkHasFourBytes() {
        DUE.about("a check (four bytes, lowest first)");
        for (int k = 59; k < 63; k++) {
            for (int bit : new int[] {1, 128}) {
                BlockJournal x = laid(2, new int[] {30, 31}, 2);
                x.spoil(0, k, x.at(0, k) ^ bit);
                DUE.is("check's byte " + k, 0L, () -> x.look(2));
                DUE.is("check's byte " + k + ", recover()", 0, x::recover);
            }
        }
    }

    private static void bytesThatAreNotAsked() {
        DUE.about("The head is right if its count, that many targets and its check are: no other byte is asked.");
        BlockJournal x = laid(2, new int[] {30, 31}, 2);
        for (int k = 0; k < 64; k++) {
            if (k < 4 || k >= 9 && k < 59 || k == 63) {
                x.spoil(0, k, 255);
            }
        }
        DUE.is("right", 1L, () -> x.look(2));
        DUE.is("recover()", 2, x::recover);
        Journals.sameBlock(DUE, "the head is written anew", x, 0, Journals.emptyHead(0));
    }

    private static void payloadIntoTheTargets() {
        DUE.about("If it is, the payload is written into the targets: how many targets");
        for (int count : new int[] {1, 2, 23, 24}) {
            int[] targets = rising(count);
            BlockJournal x = laid(count, targets, count);
            x.spoil(targets[0], 5, 99);
            x.spoil(targets[count - 1], 62, 99);
            DUE.is("recover() of " + count, count, x::recover);
            DUE.is("writes", count + 1L, () -> x.look(4));
            for (int i = 0; i < count; i++) {
                for (int k : LAID) {
                    DUE.compare("byte " + k + " of target " + i, laidByte(1 + i, k), x.at(targets[i], k));
                    DUE.compare("byte " + k + " of payload " + i, laidByte(1 + i, k), x.at(1 + i, k));
                }
            }
            DUE.is("the whole first block is written", 0, () -> x.at(targets[0], 5));
            DUE.is("the whole last block is written", 0, () -> x.at(targets[count - 1], 62));
            DUE.is("the block before the targets", 0, () -> x.at(targets[0] - 1, 0));
            DUE.is("recover() again: 0", 0, x::recover);
        }
    }

    private static void headWithOneMore() {
        DUE.about("then the head with its sequence and 1 more, all else 0");
        for (int count : new int[] {1, 2, 24}) {
            BlockJournal x = laid(count, rising(count), count);
            Journals.sequence(x, 0x01020304);
            x.spoil(0, 63, 9);
            x.recover();
            Journals.sameBlock(DUE, count + " targets", x, 0, Journals.emptyHead(0x01020305));
        }
    }

    private static void sequenceWraps() {
        DUE.about("its sequence and 1 more, in four bytes");
        long[][] pairs = {{0, 1}, {255, 256}, {65535, 65536}, {0xFFFFFFL, 0x1000000L},
            {0x7FFFFFFFL, 0x80000000L}, {0xFFFFFFFEL, 0xFFFFFFFFL}, {0xFFFFFFFFL, 0}};
        for (long[] pair : pairs) {
            BlockJournal x = laid(1, new int[] {30}, 1);
            Journals.sequence(x, pair[0]);
            DUE.is("recover()", 1, x::recover);
            DUE.is(pair[0] + " and 1 more", pair[1], () -> x.look(0));
            Journals.sameBlock(DUE, pair[0] + " and 1 more", x, 0, Journals.emptyHead(pair[1]));
        }
    }

    private static void nothingIsWrittenWithoutRightHead() {
        DUE.about("If it is not, nothing is written (0: the head is not right)");
        for (int writes : new int[] {0, 1, 2, 6}) {
            BlockJournal x = Journals.cut(writes, 30, 31);
            x.lose(1);
            String before = Journals.state(x);
            DUE.is("recover()", 0, x::recover);
            DUE.compare("nothing is changed", before, Journals.state(x));
        }
    }

    private static void lostAtEachWrite() {
        DUE.about("one behind the other: -1 when the power was lost.");
        for (int n = 1; n <= 24; n++) {
            for (int done = 0; done <= n + 1; done++) {
                BlockJournal x = Journals.cut(n + 1, Journals.everySecond(n));
                x.lose(done + 1);
                String cut = n + " targets, behind " + done + " writes: ";
                boolean lost = done <= n;
                DUE.is(cut + "recover()", lost ? -1 : n, x::recover);
                DUE.compare(cut + "off", lost ? 1L : 0L, x.look(5));
                DUE.compare(cut + "writes before the loss", 0L, x.look(6));
                DUE.compare(cut + "writes", n + 1L + done, x.look(4));
                for (int i = 0; i < n; i++) {
                    DUE.compare(cut + "target " + i, done > i ? i + 1 : 0, x.at(25 + 2 * i, 0));
                }
                DUE.compare(cut + "count", lost ? (long) n : 0L, x.look(1));
                DUE.compare(cut + "right", lost ? 1L : 0L, x.look(2));
                DUE.compare(cut + "sequence", lost ? 0L : 1L, x.look(0));
                x.power();
                DUE.is(cut + "recover() again", lost ? n : 0, x::recover);
                DUE.compare(cut + "its sequence", 1L, x.look(0));
                DUE.compare(cut + "its last target", n, x.at(23 + 2 * n, 0));
            }
        }
    }

    private static void changesAndTapeStay() {
        DUE.about("A recovery writes; the changes and the tape stay.");
        BlockJournal x = Journals.cut(2, 30);
        x.feed(1, 8);
        x.put(30);
        x.feed(2, 1);
        DUE.is("recover()", 1, x::recover);
        DUE.is("the tape stays", 3, () -> x.feed(1, 1));
        DUE.is("the change stays", 30, () -> x.change(0));
        x.lose(9);
        x.commit();
        DUE.is("and is committed", 8, () -> x.at(30, 0));

        BlockJournal lost = Journals.cut(2, 30);
        lost.put(31);
        lost.lose(1);
        DUE.is("recover() that loses the power", -1, lost::recover);
        DUE.is("the change stays", 31, () -> lost.change(0));
    }

    private static void throwsWithThePowerOff() {
        DUE.about("Throws IllegalStateException when the power is off.");
        BlockJournal x = Journals.withChanges(30);
        x.lose(3);
        x.commit();
        String before = Journals.state(x);
        DUE.fails("recover() of a right head", IllegalStateException.class, x::recover);
        DUE.compare("nothing is changed", before, Journals.state(x));
        x.power();
        DUE.is("recover() with the power on", 1, x::recover);
        BlockJournal y = Journals.dark();
        DUE.fails("recover() without a right head", IllegalStateException.class, y::recover);
    }

    private static void rightIs(String what, boolean right, int count, int[] targets, int checked) {
        BlockJournal x = laid(count, targets, checked);
        DUE.is(what + ": right", right ? 1L : 0L, () -> x.look(2));
        DUE.is(what + ": count", (long) count, () -> x.look(1));
        DUE.is(what + ": recover()", right ? count : 0, x::recover);
        DUE.is(what + ": writes", right ? count + 1L : 0L, () -> x.look(4));
    }

    /** The highest targets, by rising numbers up to 95. */
    private static int[] rising(int many) {
        int[] targets = new int[many];
        for (int i = 0; i < many; i++) {
            targets[i] = 96 - many + i;
        }
        return targets;
    }

    /** A store with a payload and this head, its check that of so many blocks, laid by spoil alone. */
    private static BlockJournal laid(int count, int[] targets, int checked) {
        BlockJournal x = new BlockJournal();
        int[][] payload = new int[checked][64];
        for (int block = 1; block <= 26; block++) {
            for (int k : LAID) {
                if (block < 25) {
                    x.spoil(block, k, laidByte(block, k));
                }
                if (block <= checked) {
                    payload[block - 1][k] = laidByte(block, k);
                }
            }
        }
        int[] head = Journals.head(0, targets, payload);
        head[4] = count;
        for (int k = 4; k < 63; k++) {
            x.spoil(0, k, head[k]);
        }
        return x;
    }

    /** Blocks from 25 on are no payload, and have only 0s. */
    private static int laidByte(int block, int k) {
        return block < 25 ? (block * 37 + k * k * 5 + 1) & 255 : 0;
    }
}
