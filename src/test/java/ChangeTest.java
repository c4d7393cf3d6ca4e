import java.util.NoSuchElementException;

/** Promise 11: change. */
public final class ChangeTest {
    private static final Due DUE = new Due();

    public static void main(String[] args) {
        blockOfChange();
        noneThere();
        emptyJournal();
        eachNumberOfChanges();
        withThePowerOff();
        DUE.end();
    }

    private static void blockOfChange() {
        DUE.about("The block of change i.");
        BlockJournal x = Journals.withChanges(70, 30, 50);
        DUE.is("change(0)", 30, () -> x.change(0));
        DUE.is("change(1)", 50, () -> x.change(1));
        DUE.is("change(2)", 70, () -> x.change(2));
        x.put(25);
        x.put(95);
        DUE.is("the lowest", 25, () -> x.change(0));
        DUE.is("the highest", 95, () -> x.change(4));
        BlockJournal falling = new BlockJournal();
        for (int block = 95; block > 71; block--) {
            falling.put(block);
        }
        for (int i = 0; i < 24; i++) {
            int at = i;
            DUE.is("change(" + i + ") of falling puts", 72 + i, () -> falling.change(at));
        }
    }

    private static void noneThere() {
        DUE.about("Throws NoSuchElementException when there is none.");
        BlockJournal x = Journals.withChanges(70, 30, 50);
        for (int i : new int[] {3, -1, 4, 23, 24, 25, 64, -3, Integer.MIN_VALUE, Integer.MAX_VALUE}) {
            DUE.fails("change(" + i + ") of 3", NoSuchElementException.class, () -> x.change(i));
        }
    }

    private static void emptyJournal() {
        DUE.about("when there is none: no changes at all");
        BlockJournal fresh = new BlockJournal();
        BlockJournal committed = Journals.full();
        committed.commit();
        BlockJournal lost = Journals.cut(0, 30, 31);
        BlockJournal dropped = Journals.full();
        dropped.drop();
        for (int i : new int[] {0, 1, 23, 24, -1}) {
            DUE.fails("change(" + i + ") when new", NoSuchElementException.class, () -> fresh.change(i));
            DUE.fails("change(" + i + ") when committed", NoSuchElementException.class, () -> committed.change(i));
            DUE.fails("change(" + i + ") when lost", NoSuchElementException.class, () -> lost.change(i));
            DUE.fails("change(" + i + ") when dropped", NoSuchElementException.class, () -> dropped.change(i));
        }
    }

    private static void eachNumberOfChanges() {
        DUE.about("when there is none: the last one is there, and none behind it");
        for (int many = 1; many <= 24; many++) {
            BlockJournal x = Journals.withChanges(Journals.everySecond(many));
            int n = many;
            DUE.is("the last of " + many, 23 + 2 * many, () -> x.change(n - 1));
            DUE.fails("the one behind " + many, NoSuchElementException.class, () -> x.change(n));
        }
    }

    private static void withThePowerOff() {
        DUE.about("change throws nothing else: the power may be off.");
        BlockJournal x = Journals.dark();
        x.put(44);
        DUE.is("change(0)", 44, () -> x.change(0));
    }
}
