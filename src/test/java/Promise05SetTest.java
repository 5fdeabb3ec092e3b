/** Promise 5: set. */
public final class Promise05SetTest {
    public static void main(String[] args) {
        Checks c = new Checks();
        HandleModels m = new HandleModels();
        c.due("no ROW", m.set(0, 0, 1), Checks.UNKNOWN);
        m.row(3);
        m.row(2);
        c.due("ROW -1", m.set(-1, 0, 1), Checks.UNKNOWN);
        c.due("ROW 2", m.set(2, 0, 1), Checks.UNKNOWN);
        c.due("k -1", m.set(0, -1, 1), Checks.UNKNOWN);
        c.due("k 3", m.set(0, 3, 1), Checks.UNKNOWN);
        c.due("k 2 of the shorter one", m.set(1, 2, 1), Checks.UNKNOWN);
        c.due("lowest v", m.set(0, 0, Integer.MIN_VALUE), 1);
        c.due("the last", m.set(0, 2, Integer.MAX_VALUE), 1);
        c.due("once more", m.set(1, 1, 4), 1);
        c.due("is set anew", m.set(1, 1, -4), 1);
        c.due("no RESULT", m.resultKind(), 3);
        int[][] due = {{0, 0, Integer.MIN_VALUE}, {0, 1, 0}, {0, 2, Integer.MAX_VALUE}, {1, 0, 0}, {1, 1, -4}};
        for (int[] d : due) {
            m.item(d[0], d[1]);
            c.due("ROW " + d[0] + " item " + d[1], m.result(), d[2]);
        }
        c.end();
    }
}
