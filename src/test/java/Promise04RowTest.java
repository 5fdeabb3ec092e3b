/** Promise 4: row. */
public final class Promise04RowTest {
    public static void main(String[] args) {
        Checks c = new Checks();
        HandleModels m = new HandleModels();
        c.due("-1", m.row(-1), Checks.OUTSIDE);
        c.due("21", m.row(21), Checks.OUTSIDE);
        c.due("lowest", m.row(Integer.MIN_VALUE), Checks.OUTSIDE);
        c.due("none is made", m.told(1), 0);
        for (int k = 0; k < 60; k++) {
            c.due("ROW " + k, m.row(k % 21), k);
        }
        c.due("60 ROWS", m.told(1), 60);
        c.due("a 61st", m.row(0), Checks.FULL);
        c.due("OUTSIDE ahead of FULL", m.row(21), Checks.OUTSIDE);
        c.due("still 60", m.told(1), 60);
        for (int k = 0; k < 20; k++) {
            c.due("item " + k, m.item(20, k), 1);
            c.due("is 0", m.result(), 0);
        }
        c.due("20 long", m.item(20, 20), Checks.UNKNOWN);
        c.due("0 long", m.item(0, 0), Checks.UNKNOWN);
        c.end();
    }
}
