/** Promise 17: told. */
public final class Promise17ToldTest {
    private static final Checks c = new Checks();

    private static void all(String what, HandleModels m, int... due) {
        for (int k = 0; k < due.length; k++) {
            c.due(what + ", told " + k, m.told(k), due[k]);
        }
    }

    public static void main(String[] args) {
        HandleModels m = new HandleModels();
        c.due("-1", m.told(-1), Checks.OUTSIDE);
        c.due("7", m.told(7), Checks.OUTSIDE);
        c.due("highest", m.told(Integer.MAX_VALUE), Checks.OUTSIDE);
        all("at first", m, 0, 0, 0, 0, 0, 0, 0);
        int count = m.plain(13, 0, 0);
        int make = m.plain(11, 0, 0);
        int twice = m.other(3, m.other(1, count, 0, 0, 0, 0), count, 0, 0, 0);
        all("four HANDLES", m, 4, 0, 0, 0, 0, 0, 0);
        m.row(4);
        m.site(count, count);
        m.value(0, 0, 3);
        all("one of each", m, 4, 1, 1, 1, 0, 0, 0);
        m.run(make, true);
        all("a ROW by a HANDLE", m, 4, 2, 1, 1, 1, 0, 0);
        m.run(count, true);
        all("WRONG", m, 4, 2, 1, 1, 0, 0, 7);
        m.clear();
        m.run(twice, true);
        all("FOLDED, COUNT, LEFT, COUNT", m, 4, 2, 1, 0, 4, 2, 0);
        m.runSite(0, true);
        all("the STARTER gives 3, and HANDLE 3 COUNTS twice", m, 4, 2, 1, 0, 5, 5, 0);
        c.due("LINKED to it", m.linked(0), twice);
        m.value(0, 0, -1);
        m.run(make, true);
        all("SIZE", m, 4, 2, 1, 1, 1, 5, 5);
        m.run(99, true);
        m.runSite(99, true);
        m.plain(99, 0, 0);
        all("refusals change nothing", m, 4, 2, 1, 1, 1, 5, 5);
        c.end();
    }
}
