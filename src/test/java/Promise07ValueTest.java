/** Promise 7: value. */
public final class Promise07ValueTest {
    public static void main(String[] args) {
        Checks c = new Checks();
        HandleModels m = new HandleModels();
        c.due("k -1", m.value(-1, 0, 0), Checks.OUTSIDE);
        c.due("k 1 of none", m.value(1, 0, 0), Checks.OUTSIDE);
        c.due("kind -1", m.value(0, -1, 0), Checks.OUTSIDE);
        c.due("kind 4", m.value(0, 4, 0), Checks.OUTSIDE);
        c.due("an INT too high", m.value(0, 0, 2147483648L), Checks.OUTSIDE);
        c.due("an INT too low", m.value(0, 0, -2147483649L), Checks.OUTSIDE);
        c.due("highest", m.value(0, 0, Long.MAX_VALUE), Checks.OUTSIDE);
        c.due("no ROW", m.value(0, 2, 0), Checks.UNKNOWN);
        c.due("UNKNOWN ahead of OUTSIDE", m.value(9, 2, 0), Checks.UNKNOWN);
        c.due("none is there", m.told(3), 0);
        m.row(1);
        c.due("ROW 2 to the 32nd", m.value(0, 2, 4294967296L), Checks.UNKNOWN);
        c.due("ROW -1", m.value(0, 2, -1), Checks.UNKNOWN);
        c.due("a ROW, k outside", m.value(1, 2, 0), Checks.OUTSIDE);
        c.due("highest INT", m.value(0, 0, Integer.MAX_VALUE), 1);
        c.due("lowest INT", m.value(1, 0, Integer.MIN_VALUE), 2);
        c.due("a LONG", m.value(2, 1, Long.MIN_VALUE), 3);
        c.due("a ROW", m.value(3, 2, 0), 4);
        c.due("NOTHING", m.value(4, 3, 77), 5);
        c.due("the sixth", m.value(5, 0, 1), 6);
        c.due("a seventh", m.value(6, 0, 1), Checks.OUTSIDE);
        c.due("still six", m.told(3), 6);
        c.due("those behind are gone", m.value(2, 0, 9), 3);
        c.due("three", m.told(3), 3);
        c.due("k 4 of three", m.value(4, 0, 1), Checks.OUTSIDE);
        c.due("only one", m.value(0, 1, Long.MAX_VALUE), 1);
        c.due("a refusal leaves it", m.value(0, 0, Long.MIN_VALUE), Checks.OUTSIDE);
        int longs = m.plain(1, 1, 0);
        c.gives("the LONG", m, longs, true, 1, Long.MAX_VALUE);
        m.value(0, 3, 77);
        int box = m.plain(1, 2, 0);
        c.gives("NOTHING has the number 0", m, box, true, 3, 0);
        c.end();
    }
}
