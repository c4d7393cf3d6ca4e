/** Promise 8: power. */
public final class PowerTest {
    public static void main(String[] args) {
        Due due = new Due();
        BlockJournal x = Journals.withChanges(30);
        due.is("power() when on", false, x::power);
        x.lose(2);
        due.is("power() when it is to be lost", false, x::power);
        due.is("nothing is said", -1L, () -> x.look(6));
        due.is("commit()", true, x::commit);

        BlockJournal y = new BlockJournal();
        Journals.powerOff(y);
        y.feed(1, 3);
        y.put(70);
        due.is("power() when off", true, y::power);
        due.is("look(5)", 0L, () -> y.look(5));
        due.is("look(6)", -1L, () -> y.look(6));
        due.is("power() again", false, y::power);
        due.is("the change is still there", 70, () -> y.change(0));
        due.is("commit()", true, y::commit);
        due.is("writes", 4L, () -> y.look(4));
        due.is("block 70", 3, () -> y.at(70, 0));
        due.is("recover()", 0, y::recover);
        due.end();
    }
}
