/** Promise 4: drop. */
public final class DropTest {
    public static void main(String[] args) {
        Due due = new Due();
        BlockJournal x = Journals.withChanges(30, 31, 32);
        x.feed(2, 0x0605);
        due.is("drop()", 3, x::drop);
        due.is("drop() again", 0, x::drop);
        due.is("look(3)", 0L, () -> x.look(3));
        due.fails("change(0)", java.util.NoSuchElementException.class, () -> x.change(0));
        due.fails("commit()", IllegalStateException.class, x::commit);
        due.is("the tape is still there", 3, () -> x.feed(1, 7));
        due.is("put(40)", 1, () -> x.put(40));
        x.commit();
        due.is("nothing of what was dropped", 0, () -> x.at(30, 0));
        due.is("the payload", 5, () -> x.at(1, 0));
        due.is("the change behind", 7, () -> x.at(40, 2));
        due.is("writes of one change", 4L, () -> x.look(4));

        BlockJournal full = Journals.full();
        due.is("drop() of 24", 24, full::drop);
        due.is("there is room again", 1, () -> full.put(26));

        BlockJournal dark = new BlockJournal();
        Journals.powerOff(dark);
        dark.put(30);
        due.is("drop() with the power off", 1, dark::drop);
        due.end();
    }
}
