import java.util.NoSuchElementException;

/** Promise 4: drop. */
public final class DropTest {
    private static final Due DUE = new Due();

    public static void main(String[] args) {
        changesAreForgotten();
        howManyThereWere();
        noneThere();
        fullJournal();
        onlyTheChanges();
        withThePowerOff();
        DUE.end();
    }

    private static void changesAreForgotten() {
        DUE.about("The changes are forgotten");
        BlockJournal x = Journals.withChanges(30, 31, 32);
        x.drop();
        DUE.is("look(3)", 0L, () -> x.look(3));
        DUE.fails("change(0)", NoSuchElementException.class, () -> x.change(0));
        DUE.fails("commit()", IllegalStateException.class, x::commit);
        DUE.is("put(40)", 1, () -> x.put(40));
        DUE.is("commit() of the one behind", true, x::commit);
        DUE.is("nothing of what was dropped", 0, () -> x.at(30, 0));
        DUE.is("writes of one change", 4L, () -> x.look(4));
    }

    private static void howManyThereWere() {
        DUE.about("how many there were.");
        for (int many = 0; many <= 24; many++) {
            BlockJournal x = Journals.withChanges(Journals.everySecond(many));
            DUE.is("drop() of " + many, many, x::drop);
        }
    }

    private static void noneThere() {
        DUE.about("how many there were: 0 when there were none.");
        BlockJournal x = Journals.withChanges(30);
        x.drop();
        DUE.is("drop() again", 0, x::drop);
        BlockJournal y = Journals.withChanges(30);
        y.commit();
        DUE.is("drop() behind a commit", 0, y::drop);
        BlockJournal lost = Journals.cut(0, 30, 31);
        DUE.is("drop() behind a lost commit", 0, lost::drop);
    }

    private static void fullJournal() {
        DUE.about("Where there were 24, there is room for 24 others.");
        BlockJournal x = Journals.full();
        x.drop();
        for (int i = 0; i < 24; i++) {
            int block = 95 - i;
            DUE.is("put(" + block + ")", i + 1, () -> x.put(block));
        }
        DUE.fails("put(25)", IllegalStateException.class, () -> x.put(25));
    }

    private static void onlyTheChanges() {
        DUE.about("The changes alone are forgotten: the tape, the store and the power stay.");
        BlockJournal x = Journals.cut(4, 30, 31);
        x.put(40);
        x.feed(2, 0x0605);
        x.lose(9);
        String before = Journals.state(x);
        x.drop();
        x.put(40);
        DUE.compare("state, with the change put again", before, Journals.state(x));
        DUE.is("recover()", 2, x::recover);
        DUE.is("the tape was that change", 1, () -> x.feed(1, 1));
        x.commit();
        DUE.is("its bytes", 6, () -> x.at(40, 1));
    }

    private static void withThePowerOff() {
        DUE.about("drop throws nothing: the power may be off.");
        BlockJournal x = Journals.dark();
        x.put(30);
        DUE.is("drop()", 1, x::drop);
        DUE.is("it is still off", 1L, () -> x.look(5));
        DUE.is("drop() again", 0, x::drop);
    }
}
