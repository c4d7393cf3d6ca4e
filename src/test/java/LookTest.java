import java.util.NoSuchElementException;

/** Promise 12: look. */
public final class LookTest {
    private static final Due DUE = new Due();

    public static void main(String[] args) {
        sequence();
        count();
        whetherItIsRight();
        howManyChanges();
        writesInAll();
        whetherThePowerIsOff();
        writesBeforeTheLoss();
        anotherWhat();
        inTheCourseOfCalls();
        DUE.end();
    }

    private static void sequence() {
        DUE.about("0 the head's sequence");
        long[] sequences = {0, 1, 255, 256, 65535, 65536, 0xFFFFFFL, 0x1000000L, 0x7FFFFFFFL, 0x80000000L,
            0xF3F2F1F0L, 0xFFFFFFFFL};
        for (long sequence : sequences) {
            BlockJournal x = new BlockJournal();
            Journals.sequence(x, sequence);
            DUE.is("look(0)", sequence, () -> x.look(0));
            x.spoil(0, 4, 255);
            DUE.is("look(0), the byte behind spoiled", sequence, () -> x.look(0));
        }
    }

    private static void count() {
        DUE.about("1 its count");
        for (int count = 0; count <= 255; count++) {
            BlockJournal x = new BlockJournal();
            x.spoil(0, 4, count);
            x.spoil(0, 3, 255);
            x.spoil(0, 5, 255);
            DUE.is("look(1)", (long) count, () -> x.look(1));
        }
    }

    private static void whetherItIsRight() {
        DUE.about("2 whether it is right (1, 0)");
        for (int done = 0; done <= 6; done++) {
            BlockJournal x = Journals.withChanges(30, 31);
            x.lose(done + 1);
            x.commit();
            DUE.is("behind " + done + " writes", done > 2 && done < 6 ? 1L : 0L, () -> x.look(2));
        }
        BlockJournal zeros = new BlockJournal();
        zeros.spoil(0, 4, 1);
        zeros.spoil(0, 5, 25);
        DUE.is("a check of 0 for a block of 0s", 0L, () -> zeros.look(2));
    }

    private static void howManyChanges() {
        DUE.about("3 how many changes there are");
        for (int many = 0; many <= 24; many++) {
            BlockJournal x = Journals.withChanges(Journals.everySecond(many));
            DUE.is("look(3)", (long) many, () -> x.look(3));
        }
        BlockJournal full = Journals.full();
        Due.outcome(() -> full.put(95));
        DUE.is("behind a refused put", 24L, () -> full.look(3));
    }

    private static void writesInAll() {
        DUE.about("4 how many writes were done in all");
        BlockJournal x = Journals.full();
        x.commit();
        DUE.is("a commit of 24", 50L, () -> x.look(4));
        x.put(30);
        x.lose(1);
        x.commit();
        DUE.is("a write that was lost is not done", 50L, () -> x.look(4));
        x.power();
        x.put(30);
        x.lose(4);
        x.commit();
        DUE.is("3 of 4 writes", 53L, () -> x.look(4));
        x.power();
        x.recover();
        DUE.is("2 writes of a recovery", 55L, () -> x.look(4));
    }

    private static void whetherThePowerIsOff() {
        DUE.about("5 whether the power is off");
        BlockJournal x = Journals.withChanges(30);
        DUE.is("on", 0L, () -> x.look(5));
        x.lose(1);
        DUE.is("on before the write at which it is lost", 0L, () -> x.look(5));
        x.commit();
        DUE.is("off", 1L, () -> x.look(5));
        x.power();
        DUE.is("on again", 0L, () -> x.look(5));
    }

    private static void writesBeforeTheLoss() {
        DUE.about("6 how many writes will be done before it is lost (-1: nothing is said, 0: it is off, too)");
        BlockJournal x = Journals.withChanges(30);
        DUE.is("nothing is said", -1L, () -> x.look(6));
        for (int n : new int[] {Integer.MAX_VALUE, 100, 2, 1, 6}) {
            x.lose(n);
            DUE.is("lose(" + n + ")", n - 1L, () -> x.look(6));
        }
        x.commit();
        DUE.is("4 writes later", 1L, () -> x.look(6));
        x.put(30);
        x.commit();
        DUE.is("off", 0L, () -> x.look(6));
        x.power();
        DUE.is("on again", -1L, () -> x.look(6));
        BlockJournal y = Journals.withChanges(30);
        y.lose(5);
        y.commit();
        DUE.is("lost at the next write", 0L, () -> y.look(6));
        DUE.is("and still on", 0L, () -> y.look(5));
    }

    private static void anotherWhat() {
        DUE.about("Throws NoSuchElementException for another what.");
        for (BlockJournal x : new BlockJournal[] {new BlockJournal(), Journals.dark(), Journals.full()}) {
            for (int what : new int[] {7, -1, 8, 64, 256, -7, Integer.MIN_VALUE, Integer.MAX_VALUE}) {
                DUE.fails("look(" + what + ")", NoSuchElementException.class, () -> x.look(what));
            }
        }
    }

    private static void inTheCourseOfCalls() {
        DUE.about("All of look, in the course of a commit that is lost and recovered.");
        BlockJournal x = Journals.withChanges(30, 31, 32);
        looks("changes", x, 0, 0, 0, 3, 0, 0, -1);
        x.lose(6);
        looks("lose", x, 0, 0, 0, 3, 0, 0, 5);
        x.commit();
        looks("lost behind the head and a block", x, 0, 3, 1, 0, 5, 1, 0);
        x.power();
        looks("power", x, 0, 3, 1, 0, 5, 0, -1);
        x.recover();
        looks("recover", x, 1, 0, 0, 0, 9, 0, -1);
    }

    private static void looks(String when, BlockJournal x, long... want) {
        for (int what = 0; what < want.length; what++) {
            int w = what;
            DUE.is(when + ": look(" + w + ")", want[w], () -> x.look(w));
        }
    }
}
