/** Promise 8: clear. */
public final class Promise08ClearTest {
    public static void main(String[] args) {
        Checks c = new Checks();
        HandleModels m = new HandleModels();
        c.due("none", m.clear(), 0);
        for (int count = 1; count <= 6; count++) {
            for (int k = 0; k < count; k++) {
                m.value(k, 0, k);
            }
            c.due(count + " there were", m.clear(), count);
            c.due("none are there", m.told(3), 0);
        }
        c.due("none again", m.clear(), 0);
        int same = m.plain(1, 0, 0);
        m.value(0, 0, 1);
        m.clear();
        c.fails("a run without VALUES", m, same, 7);
        c.due("k 1", m.value(1, 0, 0), Checks.OUTSIDE);
        c.end();
    }
}
