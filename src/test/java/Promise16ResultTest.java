/** Promise 16: result. */
public final class Promise16ResultTest {
    public static void main(String[] args) {
        Checks c = new Checks();
        HandleModels m = new HandleModels();
        c.due("at first", m.result(), 0);
        m.row(1);
        m.row(1);
        m.set(1, 0, -3);
        int longs = m.plain(1, 1, 0);
        int rows = m.plain(1, 3, 0);
        int voids = m.plain(0, 4, 8);
        c.values(m, 1, Long.MIN_VALUE);
        m.run(longs, true);
        c.due("a LONG", m.result(), Long.MIN_VALUE);
        c.due("asked again", m.result(), Long.MIN_VALUE);
        m.run(voids, true);
        c.due("WRONG: 0", m.result(), 0);
        c.values(m, 2, 1);
        m.run(rows, true);
        c.due("a ROW's number", m.result(), 1);
        m.set(1, 0, 4);
        m.clear();
        m.site(longs, 0);
        c.due("other calls leave it", m.result(), 1);
        m.run(voids, true);
        c.due("VOID: 0", m.result(), 0);
        m.item(1, 0);
        c.due("an item", m.result(), 4);
        c.values(m, 3, 9);
        m.run(rows, true);
        c.due("NOTHING: 0", m.result(), 0);
        c.end();
    }
}
