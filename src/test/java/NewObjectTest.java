import java.util.NoSuchElementException;

/** Promise 1: a new object. */
public final class NewObjectTest {
    private static final Due DUE = new Due();

    public static void main(String[] args) {
        storeIsEmpty();
        headIsEmpty();
        noChanges();
        emptyTape();
        powerIsOn();
        noWrites();
        objectsShareNothing();
        DUE.end();
    }

    private static void storeIsEmpty() {
        DUE.about("The store has blocks 0 .. 95 of 64 bytes, all 0 at first.");
        for (int block = 0; block < 96; block++) {
            Journals.sameBlock(DUE, "new", new BlockJournal(), block, new int[64]);
        }
    }

    private static void headIsEmpty() {
        DUE.about("The store is empty: so the head's count is 0, and it is not right.");
        BlockJournal x = new BlockJournal();
        DUE.is("look(0)", 0L, () -> x.look(0));
        DUE.is("look(1)", 0L, () -> x.look(1));
        DUE.is("look(2)", 0L, () -> x.look(2));
        DUE.is("recover()", 0, x::recover);
    }

    private static void noChanges() {
        DUE.about("There are no changes.");
        BlockJournal x = new BlockJournal();
        DUE.is("look(3)", 0L, () -> x.look(3));
        DUE.fails("change(0)", NoSuchElementException.class, () -> x.change(0));
        DUE.is("drop()", 0, x::drop);
        DUE.fails("commit()", IllegalStateException.class, x::commit);
    }

    private static void emptyTape() {
        DUE.about("The tape has no bytes at first.");
        BlockJournal x = new BlockJournal();
        DUE.is("feed(1, 1)", 1, () -> x.feed(1, 1));
        BlockJournal y = new BlockJournal();
        y.put(40);
        y.spoil(40, 0, 9);
        y.commit();
        Journals.sameBlock(DUE, "put of the first tape", y, 40, new int[64]);
    }

    private static void powerIsOn() {
        DUE.about("Power is on at first; nothing is said of the power.");
        BlockJournal x = new BlockJournal();
        DUE.is("look(5)", 0L, () -> x.look(5));
        DUE.is("look(6)", -1L, () -> x.look(6));
        DUE.is("power()", false, x::power);
    }

    private static void noWrites() {
        DUE.about("No writes were done.");
        DUE.is("look(4)", 0L, () -> new BlockJournal().look(4));
    }

    private static void objectsShareNothing() {
        DUE.about("A new object is empty also when another one is not.");
        BlockJournal other = Journals.withChanges(25, 26);
        other.commit();
        other.put(30);
        other.feed(8, -1);
        other.lose(1);
        other.commit();
        BlockJournal x = new BlockJournal();
        String fresh = Journals.state(x);
        DUE.compare("state", Journals.state(new BlockJournal()), fresh);
        DUE.is("block 25", 0, () -> x.at(25, 0));
        DUE.is("block 1", 0, () -> x.at(1, 0));
        DUE.is("look(5)", 0L, () -> x.look(5));
        DUE.is("feed(1, 1)", 1, () -> x.feed(1, 1));
    }
}
