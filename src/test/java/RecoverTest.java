import java.util.zip.CRC32C;

/** Promise 6: recover, and when the head is right. */
public final class RecoverTest {
    private static final Due DUE = new Due();
    // Few bytes of each payload block, for an object is for 512 calls alone.
    private static final int[] LAID = {0, 1, 31, 63};

    public static void main(String[] args) {
        recoversTheTargets();
        writesOneBehindTheOther();
        changesStay();
        nothingIsWrittenWithoutRightHead();
        headsThatAreRightOrNot();
        bytesThatDoNotMatter();
        largestHead();
        sequenceWraps();
        throwsWithThePowerOff();
        DUE.end();
    }

    private static void recoversTheTargets() {
        BlockJournal x = Journals.cut(4, 30, 31, 32);
        x.spoil(31, 5, 99);
        DUE.is("recover()", 3, x::recover);
        for (int i = 0; i < 3; i++) {
            int at = i;
            DUE.is("target " + i, i + 1, () -> x.at(30 + at, 0));
        }
        DUE.is("the whole block is written", 0, () -> x.at(31, 5));
        DUE.is("sequence", 1L, () -> x.look(0));
        DUE.is("writes", 8L, () -> x.look(4));
        for (int k = 1; k < 64; k++) {
            int at = k;
            DUE.is("head's byte " + k, 0, () -> x.at(0, at));
        }
        DUE.is("recover() again", 0, x::recover);
    }

    private static void writesOneBehindTheOther() {
        for (int done = 0; done <= 4; done++) {
            BlockJournal x = Journals.cut(3, 40, 50);
            x.lose(done + 1);
            String cut = "behind " + done + " writes: ";
            int n = done;
            DUE.is(cut + "recover()", n < 3 ? -1 : 2, x::recover);
            DUE.is(cut + "off", n < 3 ? 1L : 0L, () -> x.look(5));
            DUE.is(cut + "writes", 3L + Math.min(n, 3), () -> x.look(4));
            DUE.is(cut + "block 40", n >= 1 ? 1 : 0, () -> x.at(40, 0));
            DUE.is(cut + "block 50", n >= 2 ? 2 : 0, () -> x.at(50, 0));
            DUE.is(cut + "right", n < 3 ? 1L : 0L, () -> x.look(2));
            x.power();
            DUE.is(cut + "recover() again", n < 3 ? 2 : 0, x::recover);
            DUE.is(cut + "sequence", 1L, () -> x.look(0));
        }
    }

    private static void changesStay() {
        BlockJournal x = Journals.cut(4, 30);
        x.feed(1, 8);
        x.put(30);
        x.feed(2, 1);
        BlockJournal y = Journals.cut(2, 30);
        y.feed(1, 8);
        y.put(30);
        DUE.is("recover() of nothing", 0, x::recover);
        DUE.is("recover()", 1, y::recover);
        DUE.is("the tape stays", 3, () -> x.feed(1, 1));
        DUE.is("the change stays", 30, () -> y.change(0));
        y.commit();
        DUE.is("and is committed", 8, () -> y.at(30, 0));
    }

    private static void nothingIsWrittenWithoutRightHead() {
        BlockJournal x = Journals.cut(2, 30, 31);
        x.lose(1);
        String before = Journals.state(x);
        DUE.is("recover()", 0, x::recover);
        DUE.is("nothing is changed", true, () -> before.equals(Journals.state(x)));
    }

    private static void headsThatAreRightOrNot() {
        rightIs("as committed", true, head(2, 30, 31), 2);
        rightIs("lowest and highest", true, head(2, 25, 95), 2);
        rightIs("count 0", false, head(0), 0);
        rightIs("count 25, all else as it would be right", false, head(25, rising(25)), 25);
        rightIs("count 24 beside it", true, head(24, rising(24)), 24);
        rightIs("count 255", false, head(255, rising(25)), 25);
        rightIs("equal targets", false, head(2, 30, 30), 2);
        rightIs("falling targets", false, head(2, 31, 30), 2);
        rightIs("target 24", false, head(2, 24, 30), 2);
        rightIs("target 0", false, head(1, 0), 1);
        rightIs("target 96", false, head(2, 30, 96), 2);
        rightIs("target 281: its second byte counts", false, head(1, 281), 1);
        rightIs("target 65535", false, head(2, 30, 65535), 2);
        rightIs("last of three falls", false, head(3, 30, 40, 35), 3);
        rightIs("missing target", false, head(3, 30, 40), 3);
        rightIs("check of fewer blocks", false, head(2, 30, 31), 1);
        rightIs("check of more blocks", false, head(2, 30, 31), 3);
        for (int k = 59; k < 63; k++) {
            BlockJournal x = laid(head(2, 30, 31), 2);
            x.spoil(0, k, x.at(0, k) ^ 128);
            DUE.is("check's byte " + k, 0L, () -> x.look(2));
            DUE.is("check's byte " + k + ", recover()", 0, x::recover);
        }
        for (int block = 1; block <= 2; block++) {
            BlockJournal x = laid(head(2, 30, 31), 2);
            x.spoil(block, 63, x.at(block, 63) ^ 1);
            DUE.is("payload " + block, 0L, () -> x.look(2));
        }
    }

    private static void bytesThatDoNotMatter() {
        BlockJournal x = laid(head(2, 30, 31), 2);
        for (int k = 9; k < 59; k++) {
            x.spoil(0, k, 255);
        }
        x.spoil(0, 63, 255);
        x.spoil(3, 0, x.at(3, 0) ^ 1);
        DUE.is("targets behind the count, the 0s, the payload behind: right", 1L, () -> x.look(2));
        DUE.is("and recovered", 2, x::recover);
        DUE.is("the head is written anew", 0, () -> x.at(0, 63));
    }

    private static void largestHead() {
        int[] targets = rising(24);
        BlockJournal x = laid(head(24, targets), 24);
        DUE.is("24 targets: right", 1L, () -> x.look(2));
        DUE.is("24 targets", 24, x::recover);
        DUE.is("writes", 25L, () -> x.look(4));
        for (int i = 0; i < 24; i++) {
            for (int k : LAID) {
                DUE.compare("byte " + k + " of target " + i, laidByte(1 + i, k), x.at(targets[i], k));
            }
        }
        int[] last = rising(24);
        last[23] = last[22];
        rightIs("the 24th does not rise", false, head(24, last), 24);
    }

    private static void sequenceWraps() {
        BlockJournal x = laid(head(1, 30), 1);
        for (int k = 0; k < 4; k++) {
            x.spoil(0, k, 255);
        }
        DUE.is("the sequence does not matter", 1, x::recover);
        DUE.is("it wraps", 0L, () -> x.look(0));
        BlockJournal y = laid(head(1, 30), 1);
        y.spoil(0, 3, 0x7F);
        y.spoil(0, 2, 255);
        y.spoil(0, 1, 255);
        y.spoil(0, 0, 255);
        y.recover();
        DUE.is("2^31", 1L << 31, () -> y.look(0));
    }

    private static void throwsWithThePowerOff() {
        BlockJournal x = Journals.withChanges(30);
        x.lose(3);
        x.commit();
        String before = Journals.state(x);
        DUE.fails("recover() with the power off", IllegalStateException.class, x::recover);
        DUE.is("nothing is changed", true, () -> before.equals(Journals.state(x)));
        BlockJournal y = new BlockJournal();
        Journals.powerOff(y);
        DUE.fails("so too without a right head", IllegalStateException.class, y::recover);
    }

    private static void rightIs(String what, boolean right, int[] head, int checked) {
        BlockJournal x = laid(head, checked);
        DUE.is(what + ": right", right ? 1L : 0L, () -> x.look(2));
        DUE.is(what + ": count", (long) head[4], () -> x.look(1));
        DUE.is(what + ": recover()", right ? head[4] : 0, x::recover);
        DUE.is(what + ": writes", right ? head[4] + 1L : 0L, () -> x.look(4));
    }

    /** The highest targets, by rising numbers up to 95. */
    private static int[] rising(int many) {
        int[] targets = new int[many];
        for (int i = 0; i < many; i++) {
            targets[i] = 96 - many + i;
        }
        return targets;
    }

    private static int[] head(int count, int... targets) {
        int[] head = new int[64];
        head[4] = count;
        for (int i = 0; i < targets.length; i++) {
            head[5 + 2 * i] = targets[i] & 255;
            head[6 + 2 * i] = targets[i] >> 8;
        }
        return head;
    }

    /** A store with a payload and this head, its check that of so many blocks, laid by spoil alone. */
    private static BlockJournal laid(int[] head, int checked) {
        BlockJournal x = new BlockJournal();
        for (int block = 1; block < 25; block++) {
            for (int k : LAID) {
                x.spoil(block, k, laidByte(block, k));
            }
        }
        CRC32C check = new CRC32C();
        for (int block = 1; block <= checked; block++) {
            for (int k = 0; k < 64; k++) {
                check.update(laidByte(block, k));
            }
        }
        for (int k = 0; k < 59; k++) {
            x.spoil(0, k, head[k]);
        }
        for (int i = 0; i < 4; i++) {
            x.spoil(0, 59 + i, (int) (check.getValue() >>> 8 * i));
        }
        return x;
    }

    private static int laidByte(int block, int k) {
        boolean laid = false;
        for (int place : LAID) {
            laid |= place == k;
        }
        return laid && block < 25 ? (block * 37 + k * k * 5 + 1) & 255 : 0;
    }
}
