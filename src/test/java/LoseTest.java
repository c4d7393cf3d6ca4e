/** Promise 7: lose. */
public final class LoseTest {
    private static final Due DUE = new Due();

    public static void main(String[] args) {
        atTheNthWrite();
        fromNowOn();
        inPlaceOfWhatWasSaid();
        allBehindItAreNotDone();
        onlyWritesCount();
        largestNumber();
        belowOne();
        whenItIsOff();
        DUE.end();
    }

    private static Object lose(BlockJournal x, int n) {
        x.lose(n);
        return 0;
    }

    private static void atTheNthWrite() {
        DUE.about("The power is lost at the n-th write from now on: that one is not done, and the power is off.");
        for (int n = 1; n <= 5; n++) {
            BlockJournal x = Journals.withChanges(30);
            x.lose(n);
            int done = n - 1;
            DUE.is("look(6)", (long) done, () -> x.look(6));
            DUE.is("it is still on", 0L, () -> x.look(5));
            DUE.is("commit() of 4 writes, the loss at " + n, n > 4, x::commit);
            DUE.is("writes", (long) done, () -> x.look(4));
            DUE.is("off", n > 4 ? 0L : 1L, () -> x.look(5));
            DUE.is("look(6) then", 0L, () -> x.look(6));
        }
    }

    private static void fromNowOn() {
        DUE.about("from now on");
        BlockJournal x = Journals.withChanges(30);
        x.commit();
        x.lose(2);
        x.put(31);
        DUE.is("commit()", false, x::commit);
        DUE.is("writes in all", 5L, () -> x.look(4));
        x.power();
        x.put(31);
        x.lose(5);
        DUE.is("commit()", true, x::commit);
        x.put(31);
        DUE.is("commit() at whose first write it is lost", false, x::commit);
        DUE.is("writes in all", 9L, () -> x.look(4));
    }

    private static void inPlaceOfWhatWasSaid() {
        DUE.about("in place of what was said before");
        BlockJournal later = Journals.withChanges(30);
        later.lose(1);
        later.lose(5);
        DUE.is("look(6)", 4L, () -> later.look(6));
        DUE.is("commit()", true, later::commit);
        DUE.is("it is on", 0L, () -> later.look(5));
        BlockJournal sooner = Journals.withChanges(30);
        sooner.lose(9);
        sooner.lose(3);
        DUE.is("look(6)", 2L, () -> sooner.look(6));
        DUE.is("commit()", false, sooner::commit);
        DUE.is("writes", 2L, () -> sooner.look(4));
        BlockJournal same = Journals.withChanges(30);
        same.lose(6);
        same.commit();
        same.lose(6);
        DUE.is("said again behind 4 writes", 5L, () -> same.look(6));
    }

    private static void allBehindItAreNotDone() {
        DUE.about("that one and all behind it are not done");
        BlockJournal x = Journals.withChanges(30, 31, 32);
        x.lose(2);
        DUE.is("commit()", false, x::commit);
        DUE.is("the first write", 1, () -> x.at(1, 0));
        DUE.is("the second", 0, () -> x.at(2, 0));
        DUE.is("the third", 0, () -> x.at(3, 0));
        Journals.sameBlock(DUE, "the head", x, 0, new int[64]);
        for (int block = 30; block < 33; block++) {
            DUE.compare("block " + block, 0, x.at(block, 0));
        }
        DUE.is("writes", 1L, () -> x.look(4));
    }

    private static void onlyWritesCount() {
        DUE.about("at the n-th write: what is no write does not count");
        BlockJournal x = Journals.withChanges(30);
        x.lose(7);
        x.commit();
        DUE.is("behind 4 writes", 2L, () -> x.look(6));
        x.spoil(30, 0, 9);
        DUE.is("recover() without a right head", 0, x::recover);
        x.feed(1, 5);
        x.put(31);
        x.drop();
        x.feed(1, 6);
        x.put(32);
        DUE.is("look(6)", 2L, () -> x.look(6));
        DUE.is("commit() at whose third write it is lost", false, x::commit);
        DUE.is("writes", 6L, () -> x.look(4));
        x.power();
        DUE.is("recover()", 1, x::recover);
        DUE.is("writes", 8L, () -> x.look(4));
    }

    private static void largestNumber() {
        DUE.about("the n-th write: n may be as large as an int");
        BlockJournal x = Journals.withChanges(30);
        x.lose(Integer.MAX_VALUE);
        DUE.is("look(6)", Integer.MAX_VALUE - 1L, () -> x.look(6));
        DUE.is("commit()", true, x::commit);
        DUE.is("look(6) behind it", Integer.MAX_VALUE - 5L, () -> x.look(6));
    }

    private static void belowOne() {
        DUE.about("Throws IllegalArgumentException when n is below 1");
        BlockJournal x = new BlockJournal();
        BlockJournal said = new BlockJournal();
        said.lose(3);
        for (int n : new int[] {0, -1, -2, Integer.MIN_VALUE, Integer.MIN_VALUE + 1}) {
            DUE.fails("lose(" + n + ")", IllegalArgumentException.class, () -> lose(x, n));
            DUE.is("nothing is said", -1L, () -> x.look(6));
            DUE.fails("lose(" + n + ") behind lose(3)", IllegalArgumentException.class, () -> lose(said, n));
            DUE.is("what was said stays", 2L, () -> said.look(6));
        }
        DUE.is("lose(1), the lowest", 0, () -> lose(x, 1));
    }

    private static void whenItIsOff() {
        DUE.about("IllegalStateException when it is off.");
        BlockJournal x = Journals.dark();
        for (int n : new int[] {1, 2, 9, Integer.MAX_VALUE}) {
            DUE.fails("lose(" + n + ")", IllegalStateException.class, () -> lose(x, n));
        }
        DUE.is("look(6)", 0L, () -> x.look(6));
        DUE.is("look(5)", 1L, () -> x.look(5));
        x.power();
        DUE.is("nothing is said", -1L, () -> x.look(6));
        DUE.is("lose(2) with the power on", 0, () -> lose(x, 2));
    }
}
