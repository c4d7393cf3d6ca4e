import java.util.NoSuchElementException;

/** Promise 11: change. */
public final class ChangeTest {
    public static void main(String[] args) {
        Due due = new Due();
        BlockJournal x = Journals.withChanges(70, 30, 50);
        due.is("change(0)", 30, () -> x.change(0));
        due.is("change(1)", 50, () -> x.change(1));
        due.is("change(2)", 70, () -> x.change(2));
        for (int i : new int[] {3, -1, 24, 64, Integer.MIN_VALUE, Integer.MAX_VALUE}) {
            due.fails("change(" + i + ")", NoSuchElementException.class, () -> x.change(i));
        }
        x.commit();
        due.fails("change(0) behind a commit", NoSuchElementException.class, () -> x.change(0));

        BlockJournal lost = Journals.cut(0, 30);
        due.fails("change(0) behind a lost commit", NoSuchElementException.class, () -> lost.change(0));

        BlockJournal full = Journals.full();
        for (int i = 0; i < 24; i++) {
            int at = i;
            due.is("change(" + i + ") of 24", 25 + 2 * i, () -> full.change(at));
        }
        due.fails("change(24) of 24", NoSuchElementException.class, () -> full.change(24));

        BlockJournal falling = new BlockJournal();
        for (int block = 95; block > 71; block--) {
            falling.put(block);
        }
        for (int i = 0; i < 24; i++) {
            int at = i;
            due.is("change(" + i + ") of falling puts", 72 + i, () -> falling.change(at));
        }
        due.end();
    }
}
