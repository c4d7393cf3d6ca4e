/** An object over all the 512 calls that it is for. */
public final class LifeTest {
    private static final Due DUE = new Due();

    public static void main(String[] args) {
        commitsToTheEnd();
        feedsAndPutsToTheEnd();
        largestCommitsToTheEnd();
        losesToTheEnd();
        DUE.end();
    }

    private static void commitsToTheEnd() {
        DUE.about("An object is used for at most 512 calls: 255 commits");
        BlockJournal x = new BlockJournal();
        for (int i = 0; i < 255; i++) {
            int block = 25 + i % 71;
            DUE.is("put(" + block + ")", 1, () -> x.put(block));
            DUE.is("commit()", true, x::commit);
        }
        DUE.is("sequence, call 511", 255L, () -> x.look(0));
        DUE.is("writes, call 512", 1020L, () -> x.look(4));
    }

    private static void feedsAndPutsToTheEnd() {
        DUE.about("An object is used for at most 512 calls: 255 changes of one block");
        BlockJournal x = new BlockJournal();
        for (int i = 0; i < 255; i++) {
            int value = i;
            DUE.is("feed", 1, () -> x.feed(1, value));
            DUE.is("put", 1, () -> x.put(95));
        }
        DUE.is("commit(), call 511", true, x::commit);
        DUE.is("the last change, call 512", 254, () -> x.at(95, 0));
    }

    private static void largestCommitsToTheEnd() {
        DUE.about("An object is used for at most 512 calls: 20 commits of 24 changes");
        BlockJournal x = new BlockJournal();
        for (int round = 0; round < 20; round++) {
            for (int i = 0; i < 24; i++) {
                int many = i + 1;
                DUE.is("put", many, () -> x.put(96 - many));
            }
            DUE.is("commit()", true, x::commit);
        }
        DUE.is("sequence", 20L, () -> x.look(0));
        DUE.is("writes", 1000L, () -> x.look(4));
        for (int call = 503; call <= 511; call++) {
            DUE.is("recover()", 0, x::recover);
        }
        DUE.fails("commit(), call 512", IllegalStateException.class, x::commit);
    }

    private static void losesToTheEnd() {
        DUE.about("An object is used for at most 512 calls: 102 commits that are lost and recovered");
        BlockJournal x = new BlockJournal();
        for (int i = 0; i < 102; i++) {
            x.put(25);
            x.lose(3);
            DUE.is("commit()", false, x::commit);
            DUE.is("power()", true, x::power);
            DUE.is("recover()", 1, x::recover);
        }
        DUE.is("sequence, call 511", 102L, () -> x.look(0));
        DUE.is("writes, call 512", 408L, () -> x.look(4));
    }
}
