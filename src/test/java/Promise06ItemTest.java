/** Promise 6: item. */
public final class Promise06ItemTest {
    public static void main(String[] args) {
        Checks c = new Checks();
        HandleModels m = new HandleModels();
        m.row(2);
        m.row(0);
        m.set(0, 1, -9);
        c.due("item", m.item(0, 1), 1);
        c.due("an INT", m.resultKind(), 0);
        c.due("-9", m.result(), -9);
        c.due("ROW -1", m.item(-1, 0), Checks.UNKNOWN);
        c.due("ROW 2", m.item(2, 0), Checks.UNKNOWN);
        c.due("k -1", m.item(0, -1), Checks.UNKNOWN);
        c.due("k 2", m.item(0, 2), Checks.UNKNOWN);
        c.due("an empty ROW", m.item(1, 0), Checks.UNKNOWN);
        c.due("lowest", m.item(Integer.MIN_VALUE, Integer.MIN_VALUE), Checks.UNKNOWN);
        c.due("a refusal leaves the kind", m.resultKind(), 0);
        c.due("a refusal leaves the RESULT", m.result(), -9);
        m.plain(12, 0, 3);
        m.run(0, true);
        c.due("item 0", m.item(0, 0), 1);
        c.due("an INT again", m.resultKind(), 0);
        c.due("item is no RUN", m.told(6), 103);
        c.end();
    }
}
