import java.util.zip.CRC32C;

/** Promise 5: commit. */
public final class CommitTest {
    private static final Due DUE = new Due();

    public static void main(String[] args) {
        writesOneBehindTheOther();
        headOfCommit();
        headOf24();
        sequenceWraps();
        wholeHeadIsWritten();
        payloadBehindStays();
        throwsWithoutChangesOrPower();
        allOrNothing();
        DUE.end();
    }

    /** With 2 changes: 1 and 2 payload, 3 the head, 4 and 5 the blocks, 6 the head. */
    private static void writesOneBehindTheOther() {
        for (int done = 0; done <= 7; done++) {
            BlockJournal x = Journals.withChanges(90, 30);
            x.lose(done + 1);
            String cut = "behind " + done + " writes: ";
            int n = done;
            DUE.is(cut + "commit()", done >= 6, x::commit);
            DUE.is(cut + "writes", (long) Math.min(n, 6), () -> x.look(4));
            DUE.is(cut + "off", n < 6 ? 1L : 0L, () -> x.look(5));
            DUE.is(cut + "writes before the loss", n < 6 ? 0L : n - 6L, () -> x.look(6));
            DUE.is(cut + "no changes", 0L, () -> x.look(3));
            DUE.is(cut + "block 1", n >= 1 ? 2 : 0, () -> x.at(1, 0));
            DUE.is(cut + "block 2", n >= 2 ? 1 : 0, () -> x.at(2, 0));
            DUE.is(cut + "count", n >= 3 && n < 6 ? 2L : 0L, () -> x.look(1));
            DUE.is(cut + "right", n >= 3 && n < 6 ? 1L : 0L, () -> x.look(2));
            DUE.is(cut + "sequence", n >= 6 ? 1L : 0L, () -> x.look(0));
            DUE.is(cut + "block 30", n >= 4 ? 2 : 0, () -> x.at(30, 0));
            DUE.is(cut + "block 90", n >= 5 ? 1 : 0, () -> x.at(90, 0));
        }
    }

    private static void headOfCommit() {
        BlockJournal x = new BlockJournal();
        x.spoil(0, 0, 0x12);
        x.spoil(0, 3, 0x89);
        for (int block : new int[] {95, 33}) {
            x.feed(8, 0x1122334455667788L * block);
            x.put(block);
        }
        x.lose(4);
        x.commit();
        int[] head = new int[64];
        head[0] = 0x12;
        head[3] = 0x89;
        head[4] = 2;
        head[5] = 33;
        head[7] = 95;
        putCheck(x, head);
        sameHead("head of a commit", x, head);
    }

    private static void headOf24() {
        BlockJournal x = Journals.full();
        x.lose(26);
        x.commit();
        int[] head = new int[64];
        head[4] = 24;
        for (int i = 0; i < 24; i++) {
            head[5 + 2 * i] = 25 + 2 * i;
        }
        putCheck(x, head);
        sameHead("head of 24", x, head);

        BlockJournal done = Journals.full();
        DUE.is("commit() of 24", true, done::commit);
        DUE.is("its writes", 50L, () -> done.look(4));
        for (int i = 0; i < 24; i++) {
            int change = i;
            DUE.is("payload " + i, i + 1, () -> done.at(1 + change, 0));
            DUE.is("target " + i, i + 1, () -> done.at(25 + 2 * change, 0));
        }
    }

    private static void sequenceWraps() {
        BlockJournal x = Journals.withChanges(25);
        x.spoil(0, 0, 255);
        x.spoil(0, 1, 255);
        DUE.is("commit()", true, x::commit);
        DUE.is("65535 and 1 more", 65536L, () -> x.look(0));
        DUE.is("its third byte", 1, () -> x.at(0, 2));

        BlockJournal y = Journals.withChanges(25);
        for (int k = 0; k < 4; k++) {
            y.spoil(0, k, 255);
        }
        DUE.is("commit()", true, y::commit);
        DUE.is("it wraps", 0L, () -> y.look(0));
        sameHead("wrapped head", y, new int[64]);
    }

    private static void wholeHeadIsWritten() {
        BlockJournal x = Journals.withChanges(25);
        for (int k = 4; k < 64; k++) {
            x.spoil(0, k, 200);
        }
        x.lose(3);
        x.commit();
        int[] head = new int[64];
        head[4] = 1;
        head[5] = 25;
        putCheck(x, head);
        sameHead("head over a spoiled one", x, head);

        BlockJournal y = Journals.withChanges(25);
        for (int k = 4; k < 64; k++) {
            y.spoil(0, k, 200);
        }
        y.commit();
        int[] last = new int[64];
        last[0] = 1;
        sameHead("last head over a spoiled one", y, last);
    }

    private static void payloadBehindStays() {
        BlockJournal x = Journals.withChanges(30, 31, 32);
        x.commit();
        x.feed(1, 77);
        x.put(40);
        DUE.is("second commit()", true, x::commit);
        DUE.is("its sequence", 2L, () -> x.look(0));
        DUE.is("block 1", 77, () -> x.at(1, 0));
        DUE.is("block 2 of the first commit", 2, () -> x.at(2, 0));
        DUE.is("block 3 of the first commit", 3, () -> x.at(3, 0));
        DUE.is("block 30 of the first commit", 1, () -> x.at(30, 0));
        DUE.is("writes", 12L, () -> x.look(4));
    }

    private static void throwsWithoutChangesOrPower() {
        BlockJournal x = new BlockJournal();
        x.lose(1);
        DUE.fails("commit() of nothing", IllegalStateException.class, x::commit);
        DUE.is("the power is still on", 0L, () -> x.look(5));

        BlockJournal y = new BlockJournal();
        Journals.powerOff(y);
        DUE.fails("commit() of nothing, power off", IllegalStateException.class, y::commit);
        y.feed(1, 9);
        y.put(44);
        String before = Journals.state(y);
        DUE.fails("commit() with the power off", IllegalStateException.class, y::commit);
        DUE.is("nothing is changed", true, () -> before.equals(Journals.state(y)));
        y.power();
        DUE.is("commit() with the power on", true, y::commit);
        DUE.is("the change was kept", 9, () -> y.at(44, 0));
    }

    /** Wherever the power is lost, a recovery leaves all changes done or none. */
    private static void allOrNothing() {
        for (int done = 0; done <= 9; done++) {
            BlockJournal x = Journals.cut(done, 30, 50, 70, 95);
            x.recover();
            int first = done >= 5 ? 1 : 0;
            String cut = "recovered behind " + done + " writes: ";
            DUE.is(cut + "30", first, () -> x.at(30, 0));
            DUE.is(cut + "50", 2 * first, () -> x.at(50, 0));
            DUE.is(cut + "70", 3 * first, () -> x.at(70, 0));
            DUE.is(cut + "95", 4 * first, () -> x.at(95, 0));
            DUE.is(cut + "sequence", (long) first, () -> x.look(0));
        }
    }

    /** The check over the payload, whose blocks were all made of at most 8 bytes here. */
    private static void putCheck(BlockJournal x, int[] head) {
        CRC32C check = new CRC32C();
        for (int block = 1; block <= head[4]; block++) {
            for (int k = 0; k < 64; k++) {
                check.update(k < 8 ? x.at(block, k) : 0);
            }
        }
        for (int i = 0; i < 4; i++) {
            head[59 + i] = (int) (check.getValue() >>> 8 * i) & 255;
        }
    }

    private static void sameHead(String what, BlockJournal x, int[] head) {
        for (int k = 0; k < 64; k++) {
            int at = k;
            DUE.is(what + ", byte " + k, head[k], () -> x.at(0, at));
        }
    }
}
