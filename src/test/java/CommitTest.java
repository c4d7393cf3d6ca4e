/** Promise 5: commit. */
public final class CommitTest {
    private static final Due DUE = new Due();

    public static void main(String[] args) {
        writesOneBehindTheOther();
        lastWriteIsDone();
        headBehindThePayload();
        sequenceAsItWasAtFirst();
        targetsAndZeros();
        checkOfTheBlocks();
        lastHead();
        sequenceWraps();
        payloadBehindStays();
        noChangesThen();
        throwsWithoutChanges();
        throwsWithThePowerOff();
        allOrNothing();
        allOrNothingAgain();
        overOneThatIsNotFinished();
        DUE.end();
    }

    /** Change i begins with the byte i + 1 and is of block 25 + 2 * i. */
    private static void writesOneBehindTheOther() {
        DUE.about("A commit of n changes makes these writes, one behind the other: false when the power was lost.");
        for (int n = 1; n <= 24; n++) {
            for (int done = 0; done < 2 * n + 2; done++) {
                BlockJournal x = Journals.withChanges(Journals.everySecond(n));
                x.lose(done + 1);
                String cut = n + " changes, behind " + done + " writes: ";
                DUE.is(cut + "commit()", false, x::commit);
                DUE.compare(cut + "writes", (long) done, x.look(4));
                DUE.compare(cut + "off", 1L, x.look(5));
                DUE.compare(cut + "writes before the loss", 0L, x.look(6));
                DUE.compare(cut + "count", done > n ? (long) n : 0L, x.look(1));
                DUE.compare(cut + "right", done > n ? 1L : 0L, x.look(2));
                DUE.compare(cut + "sequence", 0L, x.look(0));
                for (int i = 0; i < n; i++) {
                    DUE.compare(cut + "payload " + (1 + i), done > i ? i + 1 : 0, x.at(1 + i, 0));
                    DUE.compare(cut + "block " + (25 + 2 * i), done > n + 1 + i ? i + 1 : 0, x.at(25 + 2 * i, 0));
                }
            }
        }
    }

    private static void lastWriteIsDone() {
        DUE.about("A commit: true");
        for (int n = 1; n <= 24; n++) {
            BlockJournal x = Journals.withChanges(Journals.everySecond(n));
            x.lose(2 * n + 3);
            DUE.is("commit() of " + n + ", the power lost behind it", true, x::commit);
            DUE.compare("writes of " + n, 2L * n + 2, x.look(4));
            DUE.compare("off", 0L, x.look(5));
            DUE.compare("writes before the loss", 0L, x.look(6));
            DUE.compare("sequence", 1L, x.look(0));
            DUE.compare("count", 0L, x.look(1));
            for (int i = 0; i < n; i++) {
                DUE.compare("payload " + (1 + i), i + 1, x.at(1 + i, 0));
                DUE.compare("block " + (25 + 2 * i), i + 1, x.at(25 + 2 * i, 0));
            }
            for (int i = n; i < 24; i++) {
                DUE.compare("payload " + (1 + i) + " behind them", 0, x.at(1 + i, 0));
            }
        }
    }

    /** Over a head whose bytes were all spoiled, so that each one is seen to be written. */
    private static BlockJournal behindItsHead(long sequence, int n) {
        BlockJournal x = Journals.withChanges(Journals.everySecond(n));
        Journals.sequence(x, sequence);
        for (int k = 4; k < 64; k++) {
            x.spoil(0, k, 200);
        }
        x.lose(n + 2);
        x.commit();
        return x;
    }

    private static int[][] payload(int n) {
        int[][] payload = new int[n][];
        for (int i = 0; i < n; i++) {
            payload[i] = Journals.block(i + 1);
        }
        return payload;
    }

    private static void headBehindThePayload() {
        DUE.about("the head with its sequence, the count n, their numbers as targets, the check of the blocks 1 .. n");
        for (int n = 1; n <= 24; n++) {
            int[] head = Journals.head(0x89ABCD12L, Journals.everySecond(n), payload(n));
            Journals.sameBlock(DUE, n + " changes", behindItsHead(0x89ABCD12L, n), 0, head);
        }
    }

    private static void sequenceAsItWasAtFirst() {
        DUE.about("its sequence as it was when the commit began");
        for (long sequence : new long[] {0, 1, 255, 256, 65535, 0x7FFFFFFFL, 0x80000000L, 0xFFFFFFFFL}) {
            BlockJournal x = behindItsHead(sequence, 1);
            DUE.compare("look(0)", sequence, x.look(0));
            Journals.sameBlock(DUE, "sequence " + sequence, x, 0,
                    Journals.head(sequence, Journals.everySecond(1), payload(1)));
        }
    }

    private static void targetsAndZeros() {
        DUE.about("their numbers as targets (0 behind them)");
        BlockJournal x = new BlockJournal();
        for (int block : new int[] {95, 25}) {
            x.put(block);
        }
        for (int k = 0; k < 64; k++) {
            x.spoil(0, k, 255);
        }
        x.lose(4);
        x.commit();
        int[] targets = {25, 0, 95, 0};
        for (int k = 5; k < 53; k++) {
            DUE.compare("byte " + k, k < 9 ? targets[k - 5] : 0, x.at(0, k));
        }
        BlockJournal full = behindItsHead(0, 24);
        DUE.compare("the 24th target", 71, full.at(0, 51));
        DUE.compare("its second byte", 0, full.at(0, 52));
        DUE.compare("the first 0 behind", 0, full.at(0, 53));
    }

    /** The payload behind the changes has bytes too, which the check must not take. */
    private static void checkOfTheBlocks() {
        DUE.about("the check of the blocks 1 .. n");
        for (int n : new int[] {1, 2, 23}) {
            BlockJournal x = Journals.withChanges(Journals.everySecond(n));
            x.spoil(n + 1, 0, 77);
            x.spoil(1, 63, 78);
            x.lose(n + 2);
            x.commit();
            Journals.sameBlock(DUE, n + " changes", x, 0,
                    Journals.head(0, Journals.everySecond(n), payload(n)));
        }
    }

    private static void lastHead() {
        DUE.about("the head with that sequence and 1 more, all else 0");
        for (int n : new int[] {1, 2, 24}) {
            BlockJournal x = Journals.withChanges(Journals.everySecond(n));
            for (int k = 0; k < 64; k++) {
                x.spoil(0, k, 200);
            }
            x.commit();
            Journals.sameBlock(DUE, n + " changes", x, 0, Journals.emptyHead(0xC8C8C8C9L));
        }
    }

    private static void sequenceWraps() {
        DUE.about("that sequence and 1 more (it wraps)");
        long[][] pairs = {{0, 1}, {254, 255}, {255, 256}, {65535, 65536}, {0xFFFFFFL, 0x1000000L},
            {0x7FFFFFFFL, 0x80000000L}, {0x80000000L, 0x80000001L}, {0xFFFFFFFEL, 0xFFFFFFFFL}, {0xFFFFFFFFL, 0}};
        for (long[] pair : pairs) {
            BlockJournal x = Journals.withChanges(25);
            Journals.sequence(x, pair[0]);
            DUE.is("commit()", true, x::commit);
            DUE.compare(pair[0] + " and 1 more", pair[1], x.look(0));
            Journals.sameBlock(DUE, pair[0] + " and 1 more", x, 0, Journals.emptyHead(pair[1]));
        }
        BlockJournal twice = Journals.withChanges(25);
        Journals.sequence(twice, 0xFFFFFFFFL);
        twice.commit();
        twice.put(25);
        twice.commit();
        DUE.compare("goes on behind the wrap", 1L, twice.look(0));
    }

    private static void payloadBehindStays() {
        DUE.about("the changes' bytes into the blocks 1 .. n: no other block of the payload");
        BlockJournal x = Journals.withChanges(30, 31, 32);
        x.commit();
        x.feed(1, 77);
        x.put(40);
        DUE.is("second commit()", true, x::commit);
        DUE.is("its sequence", 2L, () -> x.look(0));
        DUE.is("block 1", 77, () -> x.at(1, 0));
        DUE.is("block 2 of the first commit", 2, () -> x.at(2, 0));
        DUE.is("block 3 of the first commit", 3, () -> x.at(3, 0));
        DUE.is("block 30 of the first commit", 1, () -> x.at(30, 0));
        DUE.is("writes", 12L, () -> x.look(4));
    }

    private static void noChangesThen() {
        DUE.about("There are no changes then.");
        for (int done = 0; done <= 6; done++) {
            BlockJournal x = Journals.withChanges(30, 31);
            x.feed(2, 9);
            x.lose(done + 1);
            x.commit();
            String cut = "behind " + done + " writes: ";
            DUE.is(cut + "look(3)", 0L, () -> x.look(3));
            DUE.fails(cut + "change(0)", java.util.NoSuchElementException.class, () -> x.change(0));
            DUE.is(cut + "drop()", 0, x::drop);
            x.power();
            DUE.fails(cut + "commit() again", IllegalStateException.class, x::commit);
            DUE.is(cut + "the tape stays", 3, () -> x.feed(1, 1));
        }
    }

    private static void throwsWithoutChanges() {
        DUE.about("Throws IllegalStateException when there are none");
        BlockJournal x = new BlockJournal();
        x.feed(8, -1);
        x.lose(1);
        DUE.fails("commit() of nothing", IllegalStateException.class, x::commit);
        DUE.is("the power is still on", 0L, () -> x.look(5));
        DUE.is("what was said stays", 0L, () -> x.look(6));
        DUE.is("no write", 0L, () -> x.look(4));
        DUE.is("the sequence stays", 0L, () -> x.look(0));
        BlockJournal again = Journals.withChanges(30);
        again.commit();
        DUE.fails("commit() again", IllegalStateException.class, again::commit);
        DUE.is("writes", 4L, () -> again.look(4));
        BlockJournal dropped = Journals.full();
        dropped.drop();
        DUE.fails("commit() behind drop()", IllegalStateException.class, dropped::commit);
    }

    private static void throwsWithThePowerOff() {
        DUE.about("or the power is off.");
        BlockJournal x = Journals.dark();
        DUE.fails("commit() of nothing", IllegalStateException.class, x::commit);
        x.feed(1, 9);
        x.put(44);
        String before = Journals.state(x);
        DUE.fails("commit() of a change", IllegalStateException.class, x::commit);
        DUE.compare("nothing is changed", before, Journals.state(x));
        x.power();
        DUE.is("commit() with the power on", true, x::commit);
        DUE.is("the change was kept", 9, () -> x.at(44, 0));
    }

    private static void allOrNothing() {
        DUE.about("changes of many blocks are done all together or not at all, wherever the power is lost");
        for (int n : new int[] {1, 4, 24}) {
            for (int done = 0; done < 2 * n + 2; done++) {
                BlockJournal x = Journals.cut(done, Journals.everySecond(n));
                int all = done > n ? 1 : 0;
                String cut = n + " changes, recovered behind " + done + " writes: ";
                DUE.is(cut + "recover()", all * n, x::recover);
                for (int i = 0; i < n; i++) {
                    DUE.compare(cut + "change " + i, all * (i + 1), x.at(25 + 2 * i, 0));
                }
                DUE.compare(cut + "sequence", (long) all, x.look(0));
            }
        }
    }

    /** The power is lost in the recovery, too, at every write of it: the blocks held other bytes before. */
    private static void allOrNothingAgain() {
        DUE.about("all together or not at all: also when the power is lost again before all is recovered");
        for (int done = 0; done < 8; done++) {
            BlockJournal x = Journals.withChanges(30, 50, 95);
            x.commit();
            for (int block : new int[] {30, 50, 95}) {
                x.feed(1, 100 + block);
                x.put(block);
            }
            x.lose(done + 1);
            x.commit();
            x.power();
            boolean all = done > 3;
            for (int again = 0; again < 4; again++) {
                x.lose(again + 1);
                DUE.is("recover() cut behind " + again, all ? -1 : 0, x::recover);
                x.power();
            }
            DUE.is("recover()", all ? 3 : 0, x::recover);
            DUE.compare("block 30", all ? 130 : 1, x.at(30, 0));
            DUE.compare("block 50", all ? 150 : 2, x.at(50, 0));
            DUE.compare("block 95", all ? 195 : 3, x.at(95, 0));
            DUE.compare("sequence", all ? 2L : 1L, x.look(0));
        }
    }

    /** Nothing in the document has a commit recover first. */
    private static void overOneThatIsNotFinished() {
        DUE.about("A commit makes these writes: also over a head that is right");
        for (int done = 0; done <= 4; done++) {
            BlockJournal x = Journals.cut(4, 30, 31);
            Journals.sequence(x, 7);
            DUE.compare("the first is not finished", 1L, x.look(2));
            x.feed(1, 77);
            x.put(40);
            x.lose(done + 1);
            DUE.is("second commit() cut behind " + done, done == 4, x::commit);
            x.power();
            String cut = "behind " + done + " writes of the second: ";
            DUE.compare(cut + "writes", 4L + done, x.look(4));
            DUE.compare(cut + "block 31 of the first", 0, x.at(31, 0));
            DUE.compare(cut + "sequence", done == 4 ? 8L : 7L, x.look(0));
            DUE.compare(cut + "count", done < 2 ? 2L : done < 4 ? 1L : 0L, x.look(1));
            DUE.is(cut + "recover()", new int[] {2, 0, 1, 1, 0}[done], x::recover);
            DUE.compare(cut + "block 40", done < 2 ? 0 : 77, x.at(40, 0));
        }
    }
}
