/** Promise 1: a new object. */
public final class NewObjectTest {
    public static void main(String[] args) {
        Due due = new Due();
        for (int block = 0; block < 96; block++) {
            BlockJournal read = new BlockJournal();
            for (int k = 0; k < 64; k++) {
                due.compare("byte " + k + " of block " + block, 0, read.at(block, k));
            }
        }
        BlockJournal x = new BlockJournal();
        long[] looks = {0, 0, 0, 0, 0, 0, -1};
        for (int what = 0; what < looks.length; what++) {
            int w = what;
            due.is("look(" + w + ")", looks[w], () -> x.look(w));
        }
        due.fails("change(0)", java.util.NoSuchElementException.class, () -> x.change(0));
        due.is("feed(1, 1): the tape was empty", 1, () -> x.feed(1, 1));
        due.is("drop()", 0, x::drop);
        due.is("power()", false, x::power);

        BlockJournal y = Journals.withChanges(25);
        y.commit();
        due.is("objects share nothing", 0, () -> new BlockJournal().at(25, 0));
        due.end();
    }
}
