/** Promise 8: power. */
public final class PowerTest {
    private static final Due DUE = new Due();

    public static void main(String[] args) {
        onAgain();
        nothingIsSaid();
        whetherItWasOff();
        nothingElse();
        DUE.end();
    }

    private static void onAgain() {
        DUE.about("The power is on again");
        BlockJournal x = Journals.dark();
        x.power();
        DUE.is("look(5)", 0L, () -> x.look(5));
        DUE.is("recover()", 0, x::recover);
        x.put(70);
        DUE.is("commit()", true, x::commit);
        DUE.is("writes", 4L, () -> x.look(4));
    }

    private static void nothingIsSaid() {
        DUE.about("and nothing is said of it");
        BlockJournal off = Journals.dark();
        off.power();
        DUE.is("look(6) when it was off", -1L, () -> off.look(6));
        for (int n : new int[] {1, 2, 4, Integer.MAX_VALUE}) {
            BlockJournal x = Journals.withChanges(30);
            x.lose(n);
            x.power();
            DUE.is("look(6) behind lose(" + n + ")", -1L, () -> x.look(6));
            DUE.is("commit()", true, x::commit);
        }
        BlockJournal quiet = new BlockJournal();
        quiet.power();
        DUE.is("look(6) when nothing was said", -1L, () -> quiet.look(6));
    }

    private static void whetherItWasOff() {
        DUE.about("whether it was off.");
        BlockJournal x = Journals.withChanges(30);
        DUE.is("when on", false, x::power);
        x.lose(1);
        DUE.is("when it is to be lost at the next write", false, x::power);
        x.lose(1);
        x.commit();
        DUE.is("when off", true, x::power);
        DUE.is("again", false, x::power);
        BlockJournal y = Journals.cut(2, 30);
        y.lose(1);
        y.recover();
        DUE.is("when a recovery lost it", true, y::power);
    }

    private static void nothingElse() {
        DUE.about("Neither the store nor the changes nor the tape change with the power.");
        BlockJournal x = Journals.withChanges(30, 31);
        x.lose(4);
        x.commit();
        x.feed(1, 3);
        x.put(70);
        x.feed(2, 3);
        x.power();
        DUE.is("writes", 3L, () -> x.look(4));
        DUE.is("right", 1L, () -> x.look(2));
        DUE.is("block 30 is not written", 0, () -> x.at(30, 0));
        DUE.is("the change is still there", 70, () -> x.change(0));
        DUE.is("the tape is still there", 3, () -> x.feed(1, 1));
        x.commit();
        DUE.is("block 70", 3, () -> x.at(70, 0));
    }
}
