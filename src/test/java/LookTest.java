import java.util.NoSuchElementException;

/** Promise 12: look. */
public final class LookTest {
    private static final Due DUE = new Due();

    public static void main(String[] args) {
        BlockJournal x = Journals.withChanges(30, 31, 32);
        looks("changes", x, 0, 0, 0, 3, 0, 0, -1);
        x.lose(6);
        looks("lose", x, 0, 0, 0, 3, 0, 0, 5);
        x.commit();
        looks("lost behind the head and a block", x, 0, 3, 1, 0, 5, 1, 0);
        x.power();
        looks("power", x, 0, 3, 1, 0, 5, 0, -1);
        x.recover();
        looks("recover", x, 1, 0, 0, 0, 9, 0, -1);
        for (int k = 0; k < 4; k++) {
            x.spoil(0, k, 0xF0 + k);
        }
        x.spoil(0, 4, 254);
        looks("head's own bytes", x, 0xF3F2F1F0L, 254, 0, 0, 9, 0, -1);
        for (int what : new int[] {7, -1, 8, Integer.MIN_VALUE, Integer.MAX_VALUE}) {
            DUE.fails("look(" + what + ")", NoSuchElementException.class, () -> x.look(what));
        }
        DUE.end();
    }

    private static void looks(String when, BlockJournal x, long... want) {
        for (int what = 0; what < want.length; what++) {
            int w = what;
            DUE.is(when + ": look(" + w + ")", want[w], () -> x.look(w));
        }
    }
}
