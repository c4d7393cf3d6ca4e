/** Promise 7: lose. */
public final class LoseTest {
    private static final Due DUE = new Due();

    public static void main(String[] args) {
        losesAtTheWrite();
        laterOneTakesThePlace();
        goesOnOverSeveralCalls();
        largeNumbers();
        wrongCalls();
        DUE.end();
    }

    private static Object lose(BlockJournal x, int n) {
        x.lose(n);
        return 0;
    }

    private static void losesAtTheWrite() {
        BlockJournal x = Journals.withChanges(30);
        x.lose(1);
        DUE.is("look(6)", 0L, () -> x.look(6));
        DUE.is("it is still on", 0L, () -> x.look(5));
        DUE.is("commit()", false, x::commit);
        DUE.is("no write is done", 0L, () -> x.look(4));
        DUE.is("block 1", 0, () -> x.at(1, 0));
        DUE.is("it is off", 1L, () -> x.look(5));
        DUE.is("look(6) then", 0L, () -> x.look(6));
    }

    private static void laterOneTakesThePlace() {
        BlockJournal x = Journals.withChanges(30);
        x.lose(1);
        x.lose(5);
        DUE.is("look(6)", 4L, () -> x.look(6));
        DUE.is("commit()", true, x::commit);
        DUE.is("look(6) behind it", 0L, () -> x.look(6));
        DUE.is("it is on", 0L, () -> x.look(5));
        x.lose(9);
        x.lose(3);
        DUE.is("look(6) of the later", 2L, () -> x.look(6));
    }

    private static void goesOnOverSeveralCalls() {
        BlockJournal x = Journals.withChanges(30);
        x.lose(7);
        DUE.is("commit() of 4 writes", true, x::commit);
        DUE.is("look(6)", 2L, () -> x.look(6));
        x.spoil(30, 0, 9);
        x.recover();
        DUE.is("only writes count", 2L, () -> x.look(6));
        x.feed(1, 5);
        x.put(31);
        DUE.is("commit() at the 7th", false, x::commit);
        DUE.is("writes", 6L, () -> x.look(4));
        DUE.is("all behind it are not done", 0, () -> x.at(31, 0));
        x.power();
        DUE.is("recover()", 1, x::recover);
        DUE.is("writes", 8L, () -> x.look(4));
    }

    private static void largeNumbers() {
        BlockJournal x = Journals.withChanges(30);
        x.lose(Integer.MAX_VALUE);
        DUE.is("look(6)", Integer.MAX_VALUE - 1L, () -> x.look(6));
        DUE.is("commit()", true, x::commit);
        DUE.is("look(6)", Integer.MAX_VALUE - 5L, () -> x.look(6));
    }

    private static void wrongCalls() {
        BlockJournal x = new BlockJournal();
        x.lose(3);
        for (int n : new int[] {0, -1, Integer.MIN_VALUE}) {
            DUE.fails("lose(" + n + ")", IllegalArgumentException.class, () -> lose(x, n));
        }
        DUE.is("what was said stays", 2L, () -> x.look(6));
        BlockJournal y = new BlockJournal();
        Journals.powerOff(y);
        DUE.fails("lose(1) when off", IllegalStateException.class, () -> lose(y, 1));
        DUE.fails("lose(9) when off", IllegalStateException.class, () -> lose(y, 9));
        DUE.fails("lose(0) when off", IllegalArgumentException.class, () -> lose(y, 0));
        DUE.is("look(6)", 0L, () -> y.look(6));
        DUE.is("look(5)", 1L, () -> y.look(5));
    }
}
