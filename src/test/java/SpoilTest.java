/** Promise 9: spoil. */
public final class SpoilTest {
    public static void main(String[] args) {
        Due due = new Due();
        BlockJournal x = new BlockJournal();
        x.lose(1);
        due.is("spoil(0, 0, 7)", 0, () -> x.spoil(0, 0, 7));
        due.is("spoil(0, 0, 256): its lowest eight bits", 7, () -> x.spoil(0, 0, 256));
        due.is("spoil(0, 0, -1)", 0, () -> x.spoil(0, 0, -1));
        due.is("spoil(0, 0, 0x7FFFFF80)", 255, () -> x.spoil(0, 0, 0x7FFFFF80));
        due.is("at(0, 0)", 128, () -> x.at(0, 0));
        due.is("spoil(95, 63, 200)", 0, () -> x.spoil(95, 63, 200));
        due.is("at(95, 63)", 200, () -> x.at(95, 63));
        due.is("the byte before it", 0, () -> x.at(95, 62));
        due.is("no write", 0L, () -> x.look(4));
        due.is("the power is on", 0L, () -> x.look(5));
        due.is("what lose said stays", 0L, () -> x.look(6));

        int[][] wrong = {{96, 0}, {-1, 0}, {0, 64}, {0, -1}, {95, 64}, {1, -1}, {-1, 64},
            {Integer.MAX_VALUE, 0}, {Integer.MIN_VALUE, 0}, {0, Integer.MAX_VALUE}, {0, Integer.MIN_VALUE},
            {0x4000000, 0}};
        String before = Journals.state(x);
        for (int[] place : wrong) {
            due.fails("spoil(" + place[0] + ", " + place[1] + ", 1)", IllegalArgumentException.class,
                    () -> x.spoil(place[0], place[1], 1));
        }
        due.is("nothing is changed", true, () -> before.equals(Journals.state(x)));

        BlockJournal y = new BlockJournal();
        Journals.powerOff(y);
        due.is("spoil with the power off", 0, () -> y.spoil(50, 1, 3));
        due.is("at with the power off", 3, () -> y.at(50, 1));
        due.is("it is still off", 1L, () -> y.look(5));
        due.end();
    }
}
