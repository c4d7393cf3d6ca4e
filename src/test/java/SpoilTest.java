/** Promise 9: spoil. */
public final class SpoilTest {
    private static final Due DUE = new Due();

    public static void main(String[] args) {
        lowestEightBits();
        whatItWas();
        ownByteAlone();
        withoutWrite();
        noSuchBlock();
        noSuchByte();
        withThePowerOff();
        headAndPayload();
        DUE.end();
    }

    private static void lowestEightBits() {
        DUE.about("Byte k of a block of the store becomes v (its lowest eight bits)");
        int[][] pairs = {{0, 0}, {1, 1}, {127, 127}, {128, 128}, {255, 255}, {256, 0}, {257, 1}, {511, 255},
            {-1, 255}, {-128, 128}, {-129, 127}, {-256, 0}, {0x7FFFFF80, 128}, {Integer.MAX_VALUE, 255},
            {Integer.MIN_VALUE, 0}, {Integer.MIN_VALUE + 200, 200}};
        for (int[] pair : pairs) {
            BlockJournal x = new BlockJournal();
            x.spoil(40, 7, 99);
            DUE.is("spoil(40, 7, " + pair[0] + ")", 99, () -> x.spoil(40, 7, pair[0]));
            DUE.is("at(40, 7)", pair[1], () -> x.at(40, 7));
        }
    }

    private static void whatItWas() {
        DUE.about("what it was.");
        BlockJournal x = new BlockJournal();
        DUE.is("first", 0, () -> x.spoil(0, 0, 7));
        DUE.is("second", 7, () -> x.spoil(0, 0, 256));
        DUE.is("third", 0, () -> x.spoil(0, 0, -1));
        DUE.is("fourth", 255, () -> x.spoil(0, 0, 255));
        BlockJournal y = Journals.withChanges(30);
        y.commit();
        DUE.is("what a commit wrote", 1, () -> y.spoil(30, 0, 0));
    }

    private static void ownByteAlone() {
        DUE.about("Byte k of a block: that one alone");
        for (int[] place : new int[][] {{0, 0}, {0, 63}, {1, 0}, {47, 31}, {94, 63}, {95, 0}, {95, 63}}) {
            for (int block = Math.max(0, place[0] - 1); block <= Math.min(95, place[0] + 1); block++) {
                BlockJournal x = new BlockJournal();
                x.spoil(place[0], place[1], 200);
                int[] bytes = new int[64];
                if (block == place[0]) {
                    bytes[place[1]] = 200;
                }
                Journals.sameBlock(DUE, "byte " + place[1] + " of " + place[0], x, block, bytes);
            }
        }
    }

    private static void withoutWrite() {
        DUE.about("without a write");
        BlockJournal x = new BlockJournal();
        x.lose(1);
        x.spoil(95, 63, 200);
        DUE.is("done", 200, () -> x.at(95, 63));
        DUE.is("no write", 0L, () -> x.look(4));
        DUE.is("the power is on", 0L, () -> x.look(5));
        DUE.is("what lose said stays", 0L, () -> x.look(6));
    }

    private static void noSuchBlock() {
        DUE.about("Throws IllegalArgumentException when there is no such block");
        BlockJournal x = new BlockJournal();
        String before = Journals.state(x);
        for (int block : new int[] {-1, 96, -96, 97, 0x4000000, 0x3FFFFFF, Integer.MIN_VALUE, Integer.MAX_VALUE}) {
            for (int k : new int[] {0, 63, 64, -1}) {
                DUE.fails("spoil(" + block + ", " + k + ", 1)", IllegalArgumentException.class,
                        () -> x.spoil(block, k, 1));
            }
        }
        DUE.compare("nothing is changed", before, Journals.state(x));
        DUE.is("block 0", 0, () -> x.spoil(0, 0, 1));
        DUE.is("block 95", 0, () -> x.spoil(95, 0, 1));
    }

    private static void noSuchByte() {
        DUE.about("or byte.");
        BlockJournal x = new BlockJournal();
        String before = Journals.state(x);
        for (int k : new int[] {-1, 64, -64, 65, 128, Integer.MIN_VALUE, Integer.MAX_VALUE}) {
            for (int block : new int[] {0, 1, 50, 95}) {
                DUE.fails("spoil(" + block + ", " + k + ", 1)", IllegalArgumentException.class,
                        () -> x.spoil(block, k, 1));
            }
        }
        DUE.compare("nothing is changed", before, Journals.state(x));
        DUE.is("byte 0", 0, () -> x.spoil(50, 0, 1));
        DUE.is("byte 63", 0, () -> x.spoil(50, 63, 1));
    }

    private static void withThePowerOff() {
        DUE.about("spoil throws nothing else: the power may be off.");
        BlockJournal x = Journals.dark();
        DUE.is("spoil", 0, () -> x.spoil(50, 1, 3));
        DUE.is("at", 3, () -> x.at(50, 1));
        DUE.is("it is still off", 1L, () -> x.look(5));
    }

    private static void headAndPayload() {
        DUE.about("a block of the store: the head and the payload too");
        BlockJournal x = Journals.cut(3, 30, 31);
        DUE.is("a byte of the payload", 1, () -> x.spoil(1, 0, 5));
        DUE.is("the head is not right", 0L, () -> x.look(2));
        DUE.is("put back", 5, () -> x.spoil(1, 0, 1));
        DUE.is("it is right again", 1L, () -> x.look(2));
        DUE.is("the count", 2, () -> x.spoil(0, 4, 0));
        DUE.is("look(1)", 0L, () -> x.look(1));
        DUE.is("recover()", 0, x::recover);
    }
}
